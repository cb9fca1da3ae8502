/-! ===== the sums of a fireball, its means, root, speed and masses ===== -/
theorem ml_a4 (μ : MS) (k : Nat) (v : Int64) (j : Nat) : ml (mL μ 4 k v) 4 j = if j = k then v else ml μ 4 j := ml_at μ 4 k v j
/-- from the sums to the end -/
theorem wa_261 {n f : Nat} {s : Nat → Nat → Int32} (hs : Sok s n) (hn : n ≤ 7) (hf : isF (JJ s n) f) {p2 p3 : Int32} {K : (Nat → Int64) → Prop} {v6 v8 v10 : Int64} {μ : MS} (h6 : B6 v6 (qPr s n f n) 3600) (h8 : B6 v8 (qLen s n f n) 3600) (h10 : B6 v10 (qBri s n f n) 1000) (hq : QA μ (qMan s n f n) (qX s n 5 f n) (qY s n 5 f n) (qX s n 7 f n) (qY s n 7 f n) (qByl s n f n)) (hK : ∀ g, AL s n f g → K g) : w_L_all_m261 p2 p3 K v6 v8 v10 μ := by
  have h60 : n ≤ 60 := by omega
  obtain ⟨hfn, p1, p2', p3'⟩ := z_pos hs h60 hf
  obtain ⟨zb1, zb2, zb3, zb4, zb5, zb6⟩ := z_b hs h60 hf
  obtain ⟨q0, q1, q2, q3, q4, q6⟩ := hq
  have X5 := qX_b (n := n) (f := f) (i := n) hs h60 (Nat.le_refl n) (Or.inl rfl : 5 = 5 ∨ 5 = 7)
  have X7 := qX_b (n := n) (f := f) (i := n) hs h60 (Nat.le_refl n) (Or.inr rfl : 7 = 5 ∨ 7 = 7)
  have n6 := b6_n0 h6 (by omega)
  unfold w_L_all_m261 w_L_all_m264
  refine ⟨fun M v => ∃ k, 1 ≤ k ∧ k ≤ 5 ∧ 6 ≤ M + k ∧ v.1 = nI k ∧ v.2.1 = μ.1 ∧ ∀ a, ml v.2 4 a = if 1 ≤ a ∧ a < k then f_L_down (ml μ 4 a) v6 else ml μ 4 a, ⟨1, by omega, by omega, by omega, rfl, rfl, fun a => by rw [if_neg (by omega)]⟩, fun v hv => ?_, fun M v hv => ?_⟩
  · obtain ⟨k, g1, g2, g3, -⟩ := hv
    omega
  obtain ⟨w12, μ'⟩ := v
  obtain ⟨k, g1, g2, g3, g4, g5, g6⟩ := hv
  dsimp only at g4 g5 g6 ⊢
  subst g4
  unfold b_L_all_264
  refine oif_i (fun y => ?_) (fun y => ?_)
  · have e : k = 5 := by
      have := (nI_leI (a := 5) (b := k) (by omega) (by omega)).mp y
      omega
    subst e
    have r0 : (ml μ' 4 0).toInt = qMan s n f n := by rw [g6, if_neg (by omega)]; exact q0
    have r6 : (ml μ' 4 6).toInt = qByl s n f n := by rw [g6, if_neg (by omega)]; exact q6
    have r1 : B6 (ml μ' 4 1) (zFx s n f) 198009900 := by
      rw [g6, if_pos (by omega)]
      exact ⟨(b6_ld ⟨q1, X5.1⟩ h6 (by omega) (Nat.le_of_ble_eq_true rfl)).1, zb1⟩
    have r2 : B6 (ml μ' 4 2) (zFy s n f) 198009900 := by
      rw [g6, if_pos (by omega)]
      exact ⟨(b6_ld ⟨q2, X5.2⟩ h6 (by omega) (Nat.le_of_ble_eq_true rfl)).1, zb2⟩
    have r3 : B6 (ml μ' 4 3) (zTx s n f) 198009900 := by
      rw [g6, if_pos (by omega)]
      exact ⟨(b6_ld ⟨q3, X7.1⟩ h6 (by omega) (Nat.le_of_ble_eq_true rfl)).1, zb3⟩
    have r4 : B6 (ml μ' 4 4) (zTy s n f) 198009900 := by
      rw [g6, if_pos (by omega)]
      exact ⟨(b6_ld ⟨q4, X7.2⟩ h6 (by omega) (Nat.le_of_ble_eq_true rfl)).1, zb4⟩
    unfold w_L_all_m291
    rw [ixl_1, ixl_2, ixl_3, ixl_4]
    have d1 := b6_sub r3 r1 (Nat.le_of_ble_eq_true rfl)
    have d2 := b6_sub r4 r2 (Nat.le_of_ble_eq_true rfl)
    have sq := b6_add (b6_mul d1 d1 (Nat.le_of_ble_eq_true rfl)) (b6_mul d2 d2 (Nat.le_of_ble_eq_true rfl)) (Nat.le_of_ble_eq_true rfl)
    refine wroot (z := zSq s n f) sq zb5 (by omega) (fun r hr => ?_)
    have m0 := qMan_b (s := s) (n := n) (f := f) (i := n) h60
    have m1 := qLen_b (f := f) hs h60 (Nat.le_refl n)
    have m2 := qByl_b (f := f) hs h60 (Nat.le_refl n)
    have m3 := qBri_b (f := f) hs (Nat.le_refl n)
    have hr0 : 0 ≤ isq (zSq s n f) := by
      unfold isq
      obtain ⟨-, r9, -, y0, y1, y2⟩ := xroot_i (a := Int64.ofInt (zSq s n f)) (b6_of (n := 313663364715360000) (by omega) (by omega)) zb5 (by omega)
      have := isq_eq y0 y1 y2
      unfold isq at this
      rw [this]; exact y0
    have k0 : B6 (ml μ' 4 0) (qMan s n f n) 60 := ⟨r0, by omega⟩
    have k6 : B6 (ml μ' 4 6) (qByl s n f n) 3600000 := ⟨r6, by omega⟩
    have s1 := b6_mul (b6_mul b6_10 hr (Nat.le_of_ble_eq_true rfl)) k0 (Nat.le_of_ble_eq_true rfl)
    have s1n : 0 ≤ 10 * isq (zSq s n f) * qMan s n f n := Int.mul_nonneg (by omega) m0.1
    have sp := b6_div s1 h8 (by omega) s1n (Nat.le_of_ble_eq_true rfl)
    have spn : 0 ≤ zSp s n f := Int.ediv_nonneg s1n (by omega)
    have bl := b6_div k6 k0 (by omega) m2.1 (Nat.le_of_ble_eq_true rfl)
    have sp1 := b6_add sp b6_1 (Nat.le_of_ble_eq_true rfl)
    have ms1 := b6_mul b6_1000 h10 (Nat.le_of_ble_eq_true rfl)
    have ms := b6_div ms1 sp1 (show 0 < zSp s n f + 1 by omega) (Int.mul_nonneg (by omega) m3.1) (Nat.le_of_ble_eq_true rfl)
    unfold w_L_all_m382 w_L_all_m400 w_L_all_m412
    have i0 : ∀ v, ml (mL μ' 4 (ix 5) v) 4 (ix 0) = ml μ' 4 0 := fun v => by rw [ml_a4, ixl_0, ixl_5, if_neg (by omega)]
    have i6 : ∀ v, ml (mL μ' 4 (ix 5) v) 4 (ix 6) = ml μ' 4 6 := fun v => by rw [ml_a4, ixl_6, ixl_5, if_neg (by omega)]
    have i5 : ∀ v w, ml (mL (mL μ' 4 (ix 5) v) 4 (ix 6) w) 4 (ix 5) = v := fun v w => by rw [ml_a4, ixl_5, ixl_6, if_neg (by omega), ml_a4, if_pos rfl]
    rw [i0, i6, i5, ixl_0]
    refine ⟨b6_n0 h8 (by omega), b6_n0 k0 (by omega), b6_n0 sp1 (show 0 < zSp s n f + 1 by omega), hK _ ?_⟩
    have fin : ∀ j, (mL (mL (mL μ' 4 (ix 5) (((10 * r) * (ml μ' 4 0)) / v8)) 4 (ix 6) ((ml μ' 4 6) / (ml μ' 4 0))) 4 (ix 7) ((1000 * v10) / ((((10 * r) * (ml μ' 4 0)) / v8) + 1))).2 4 j = if j = 7 then ((1000 * v10) / ((((10 * r) * (ml μ' 4 0)) / v8) + 1)) else if j = 6 then ((ml μ' 4 6) / (ml μ' 4 0)) else if j = 5 then (((10 * r) * (ml μ' 4 0)) / v8) else ml μ' 4 j := fun j => by
      show ml (mL (mL (mL μ' 4 (ix 5) _) 4 (ix 6) _) 4 (ix 7) _) 4 j = _
      rw [ml_a4, ml_a4, ml_a4, ixl_5, ixl_6, ixl_7]
    unfold AL
    rw [fin 0, fin 1, fin 2, fin 3, fin 4, fin 5, fin 6, fin 7]
    exact ⟨r0, r1, r2, r3, r4, ⟨sp.1, by
      have hq : isq (zSq s n f) ≤ 2147483647 := by have := hr.2; omega
      have hl : zSp s n f ≤ 10 * isq (zSq s n f) * qMan s n f n := Int.ediv_le_self _ s1n
      have hI : isq (zSq s n f) ≤ 1000000000 := by
        obtain ⟨-, r9, -, y0, y1, y2⟩ := xroot_i (a := Int64.ofInt (zSq s n f)) (b6_of (n := 313663364715360000) (by omega) (by omega)) zb5 (by omega)
        rw [isq_eq y0 y1 y2]
        exact isq_b y0 y1 y2 (B := 1000000000) (by omega) (by omega)
      have h9 : 10 * isq (zSq s n f) * qMan s n f n ≤ 10000000000 * 60 := Int.mul_le_mul (by omega) m0.2 m0.1 (by omega)
      have h8' : zSp s n f ≤ 600000000000 := Int.le_trans hl (Int.le_trans h9 (by decide))
      have : (zSp s n f).natAbs ≤ 600000000000 := by omega
      exact this⟩, bl, ms.1⟩
  · have hk : k < 5 := by
      rcases Nat.lt_or_ge k 5 with z | z
      · exact z
      · exact absurd (nI_le (a := 5) z (by omega)) y
    have v16 : vp_in (nI k) 16 := in_n (by omega) (by omega)
    refine ⟨v16, n6, v16, ?_⟩
    unfold w_L_all_l264_285
    rw [ix_n (by omega)]
    refine ⟨k + 1, by omega, by omega, by omega, (nI_succ k).symm, g5, fun a => ?_⟩
    show ml (mL μ' 4 k _) 4 a = _
    rw [ml_a4]
    by_cases e : a = k
    · subst e
      rw [if_pos rfl, if_pos (by omega), g6, if_neg (by omega)]
    · rw [if_neg e, g6]
      by_cases c : 1 ≤ a ∧ a < k
      · rw [if_pos c, if_pos (by omega)]
      · rw [if_neg c, if_neg (by omega)]
theorem g6_of {s : Nat → Nat → Int32} {n f : Nat} {G : Nat → Int} {I : Nat} : sm (gM s n f G) (I + 1) = sm (gM s n f G) I + gM s n f G I := rfl
/-- all of it -/
theorem wall {μ : MS} {n f : Nat} {s : Nat → Nat → Int32} (h : LZ μ n s) (hs : Sok s n) (hf : isF (JJ s n) f) {K : (Nat → Int64) → Prop} (hK : ∀ g, AL s n f g → K g) : w_L_all μ (nI n) (nI f) K := by
  have hn := h.1
  have h60 : n ≤ 60 := by omega
  have hG := gr_JJ s n
  obtain ⟨hfn, -⟩ := z_pos hs h60 hf
  have z0 : (0 : Int64).toInt = 0 := by decide
  unfold w_L_all w_L_all_m8
  refine ⟨fun M v => ∃ i, i ≤ 12 ∧ 13 ≤ M + i ∧ v.1 = nI i ∧ v.2.1 = μ.1 ∧ ∀ a, a < i → ml v.2 4 a = 0, ⟨0, by omega, by omega, rfl, rfl, fun a ha => absurd ha (Nat.not_lt_zero _)⟩, fun v hv => ?_, fun M v hv => ?_⟩
  · obtain ⟨i, g1, g2, -⟩ := hv
    omega
  obtain ⟨w6, μ'⟩ := v
  obtain ⟨i, g1, g2, g3, g4, g5⟩ := hv
  dsimp only at g3 g4 g5 ⊢
  subst g3
  unfold b_L_all_8 w_L_all_l8_21
  refine oif_i (fun y => ?_) (fun y => ?_)
  · have e : i = 12 := by
      have := (nI_leI (a := 12) (b := i) (by omega) (by omega)).mp y
      omega
    subst e
    unfold w_L_all_m27 w_L_all_m39
    refine ⟨fun M v => ∃ i, i ≤ n ∧ n + 1 ≤ M + i ∧ v.2.2.2.1 = nI i ∧ v.2.2.2.2.1 = μ.1 ∧ v.1.toInt = lT s n f (fun _ _ => 1) i ∧ v.2.1.toInt = qLen s n f i ∧ v.2.2.1.toInt = qBri s n f i ∧ QA v.2.2.2.2 (qMan s n f i) (lT s n f (fun i j => sX s 5 i j) i) (lT s n f (fun i j => sY s 5 i j) i) (lT s n f (fun i j => sX s 7 i j) i) (lT s n f (fun i j => sY s 7 i j) i) (qByl s n f i), ⟨0, by omega, by omega, rfl, g4, z0, z0, z0, ?_⟩, fun v hv => ?_, fun M v hv => ?_⟩
    · refine ⟨?_, ?_, ?_, ?_, ?_, ?_⟩
      · rw [g5 0 (by omega)]; exact z0
      · rw [g5 1 (by omega)]; exact z0
      · rw [g5 2 (by omega)]; exact z0
      · rw [g5 3 (by omega)]; exact z0
      · rw [g5 4 (by omega)]; exact z0
      · rw [g5 6 (by omega)]; exact z0
    · obtain ⟨i, g1, g2, -⟩ := hv
      omega
    obtain ⟨v6, v8, v10, w12, μ'⟩ := v
    obtain ⟨i, i1, i2, i3, i4, i5, i6, i7, i8⟩ := hv
    dsimp only at i3 i4 i5 i6 i7 i8 ⊢
    subst i3
    unfold b_L_all_39
    refine oif_i (fun y => ?_) (fun y => ?_)
    · have e : i = n := by
        have := (nI_leI (by omega) (by omega)).mp y
        omega
      subst e
      rw [lT_P] at i5
      rw [(lT_X (Or.inl rfl)).1, (lT_X (Or.inl rfl)).2, (lT_X (Or.inr rfl)).1, (lT_X (Or.inr rfl)).2] at i8
      have a1 := qPr_b (s := s) (n := i) (f := f) h60 (Nat.le_refl i)
      have a2 := qLen_b (f := f) hs h60 (Nat.le_refl i)
      have a3 := qBri_b (f := f) hs (Nat.le_refl i)
      exact wa_261 hs hn hf ⟨i5, by omega⟩ ⟨i6, by omega⟩ ⟨i7, by omega⟩ i8 hK
    · have hi : i < n := by
        rcases Nat.lt_or_ge i n with z | z
        · exact z
        · exact absurd (nI_le z (by omega)) y
      have hz : LZ μ' n s := lz_eq h (by rw [i4]) (by rw [i4])
      refine ⟨fun v => (v = nI f ∧ low (JJ s n) i = f) ∨ (¬ v = nI f ∧ ¬ low (JJ s n) i = f), wgroup hz hs hi (fun z => ?_) (fun z => ?_), fun v hv => ?_⟩
      · have hl := low_le (JJ s n) i
        by_cases e : low (JJ s n) i = f
        · exact Or.inl ⟨by rw [e], e⟩
        · exact Or.inr ⟨fun q => e ((nI_eq (by omega) (by omega)).mp q), e⟩
      · refine Or.inr ⟨fun q => ?_, fun q => ?_⟩
        · exact nI_m1 (k := f) (by omega) q.symm
        · have e : low (JJ s n) i = i := Decidable.byContradiction fun w => z (jd_low w)
          rw [e] at q
          subst q
          exact z hf.1
      rcases hv with ⟨c1, c2⟩ | ⟨c1, c2⟩
      · refine oif_i (fun _ => ?_) (fun q => absurd c1 q)
        obtain ⟨a1, a3, a4, -⟩ := z_rd hz hi
        have v3 : vp_in (9 * nI i + 3) 64 := (z_in (b := 3) (by omega) (by omega)).1
        have v4 : vp_in (9 * nI i + 4) 64 := (z_in (b := 4) (by omega) (by omega)).1
        obtain ⟨-, -, t3, t4, -⟩ := hs i hi
        have b3 : B6 (s i 3).toInt64 (vv s i 3) 60 := b6_v (by omega)
        have b4 : B6 (s i 4).toInt64 (vv s i 4) 1000 := b6_v (by omega)
        have m0 := qMan_b (s := s) (n := n) (f := f) (i := i) (by omega)
        have m1 := qLen_b (f := f) hs h60 (Nat.le_of_lt hi)
        have m2 := qByl_b (f := f) hs h60 (Nat.le_of_lt hi)
        have m3 := qBri_b (f := f) hs (Nat.le_of_lt hi)
        obtain ⟨q0, q1, q2, q3, q4, q6⟩ := i8
        unfold w_L_all_l39_68 w_L_all_l39_112
        have r3 : mi (mL μ' 4 (ix 0) ((ml μ' 4 (ix 0)) + 1)) 1 (ix (9 * nI i + 3)) = s i 3 := a3
        have r4 : mi (mL μ' 4 (ix 0) ((ml μ' 4 (ix 0)) + 1)) 1 (ix (9 * nI i + 4)) = s i 4 := a4
        rw [r3, r4]
        obtain ⟨μ2, e2⟩ : ∃ z, z = mL (mL μ' 4 (ix 0) ((ml μ' 4 (ix 0)) + 1)) 4 (ix 6) ((ml (mL μ' 4 (ix 0) ((ml μ' 4 (ix 0)) + 1)) 4 (ix 6)) + ((s i 3).toInt64 * (s i 4).toInt64)) := ⟨_, rfl⟩
        rw [← e2]
        have s4 : mi μ2 1 (ix (9 * nI i + 4)) = s i 4 := by rw [e2]; exact a4
        rw [s4]
        have o2 : μ2.1 = μ.1 := by rw [e2]; exact i4
        have w2 : ∀ j, ml μ2 4 j = if j = 6 then ml μ' 4 6 + ((s i 3).toInt64 * (s i 4).toInt64) else if j = 0 then ml μ' 4 0 + 1 else ml μ' 4 j := fun j => by
          have y6 : ml (mL μ' 4 (ix 0) ((ml μ' 4 (ix 0)) + 1)) 4 (ix 6) = ml μ' 4 6 := by rw [ml_a4, ixl_0, ixl_6, if_neg (by decide)]
          rw [e2, y6, ml_a4, ml_a4, ixl_0, ixl_6]
        have m34 := b6_mul b3 b4 (Nat.le_of_ble_eq_true rfl)
        have hq' : QA μ2 (qMan s n f (i + 1)) (lT s n f (fun i j => sX s 5 i j) i) (lT s n f (fun i j => sY s 5 i j) i) (lT s n f (fun i j => sX s 7 i j) i) (lT s n f (fun i j => sY s 7 i j) i) (qByl s n f (i + 1)) := by
          unfold QA
          rw [w2 0, w2 1, w2 2, w2 3, w2 4, w2 6]
          refine ⟨?_, q1, q2, q3, q4, ?_⟩
          · show (ml μ' 4 0 + 1).toInt = qMan s n f i + gM s n f (fun _ => 1) i
            rw [gM_y c2]
            exact pl_i (m := 60) (n := 1) q0 (by omega) (by decide) (by decide) (Nat.le_of_ble_eq_true rfl)
          · show (ml μ' 4 6 + ((s i 3).toInt64 * (s i 4).toInt64)).toInt = qByl s n f i + gM s n f (fun k => vv s k 4 * vv s k 3) i
            rw [gM_y c2, Int.mul_comm (vv s i 4)]
            exact pl_i (m := 3600000) q6 (by omega) m34.1 m34.2 (Nat.le_of_ble_eq_true rfl)
        have e8 : (v8 + (s i 3).toInt64).toInt = qLen s n f (i + 1) := by
          show _ = qLen s n f i + gM s n f (fun k => vv s k 3) i
          rw [gM_y c2]
          exact pl_i (m := 3600) i6 (by omega) b3.1 b3.2 (Nat.le_of_ble_eq_true rfl)
        have hB : ∀ b, b = 5 ∨ b = 7 → ∀ i j, JJ s n i j = true → (sX s b i j).natAbs ≤ 198009900 ∧ (sY s b i j).natAbs ≤ 198009900 := fun b hb i j hj => by
          have hh := hG.2 i j hj
          rw [JJ_jn hh.1 hh.2] at hj
          refine sX_ab hs hh.1 hh.2 hb ?_
          rcases hb with rfl | rfl
          · exact (jn_B hj).1
          · exact (jn_B hj).2
        have up : ∀ (z : Int), z.natAbs ≤ i * (n * 198009900) → z.natAbs ≤ 1000000000000 := fun z hz => Nat.le_trans hz (Nat.le_trans (Nat.mul_le_mul (show i ≤ 7 by omega) (Nat.mul_le_mul_right 198009900 hn)) (Nat.le_of_ble_eq_true rfl))
        have bp : (lT s n f (fun _ _ => 1) i).natAbs ≤ 1000 := Nat.le_trans (lT_b (B := 1) (fun _ _ _ => by decide) i) (Nat.le_trans (Nat.mul_le_mul (show i ≤ 7 by omega) (Nat.mul_le_mul_right 1 hn)) (Nat.le_of_ble_eq_true rfl))
        have go : ∀ t0 : Int64, t0.toInt = qBri s n f (i + 1) → w_L_all_l39_143 (nI n) (nI f) K v6 v8 v10 (nI i) μ' (fun v => ∃ i, i ≤ n ∧ n + 1 ≤ M + i ∧ v.2.2.2.1 = nI i ∧ v.2.2.2.2.1 = μ.1 ∧ v.1.toInt = lT s n f (fun _ _ => 1) i ∧ v.2.1.toInt = qLen s n f i ∧ v.2.2.1.toInt = qBri s n f i ∧ QA v.2.2.2.2 (qMan s n f i) (lT s n f (fun i j => sX s 5 i j) i) (lT s n f (fun i j => sY s 5 i j) i) (lT s n f (fun i j => sX s 7 i j) i) (lT s n f (fun i j => sY s 7 i j) i) (qByl s n f i)) (fun v => w_L_all_m261 (nI n) (nI f) K v.1 v.2.1 v.2.2.1 v.2.2.2.2) v6 (v8 + (s i 3).toInt64) (nI i) t0 μ2 := by
          intro t0 ht
          unfold w_L_all_l39_143
          refine wa_151 h hs hi o2 i5 bp hq' ⟨up _ (lT_b (fun i j hj => (hB 5 (Or.inl rfl) i j hj).1) i), up _ (lT_b (fun i j hj => (hB 5 (Or.inl rfl) i j hj).2) i), up _ (lT_b (fun i j hj => (hB 7 (Or.inr rfl) i j hj).1) i), up _ (lT_b (fun i j hj => (hB 7 (Or.inr rfl) i j hj).2) i)⟩ (fun v6' μ'' y1 y2 y3 => ?_)
          refine ⟨i + 1, hi, by omega, (nI_succ i).symm, y1, ?_, e8, ht, ?_⟩
          · rw [lT_s, gM_y c2]; exact y2
          · rw [lT_s, lT_s, lT_s, lT_s, gM_y c2, gM_y c2, gM_y c2, gM_y c2]; exact y3
        have ebr : qBri s n f (i + 1) = max (qBri s n f i) (vv s i 4) := by
          show max (qBri s n f i) (gM s n f (fun k => vv s k 4) i) = _
          rw [gM_y c2]
        have hv10 : B6 v10 (qBri s n f i) 1000 := ⟨i7, by omega⟩
        refine ⟨v3, v3, v4, v4, oif_i (fun q => go v10 ?_) (fun q => ⟨v4, go (s i 4).toInt64 ?_⟩)⟩
        · have := (b6_cle b4 hv10).mp q
          rw [i7, ebr]; omega
        · have : ¬ vv s i 4 ≤ qBri s n f i := fun w => q ((b6_cle b4 hv10).mpr w)
          rw [b4.1, ebr]; omega
      · refine oif_i (fun q => absurd q c1) (fun _ => ?_)
        unfold w_L_all_l39_255
        refine ⟨i + 1, hi, by omega, (nI_succ i).symm, i4, ?_, ?_, ?_, ?_⟩
        · rw [lT_s, gM_n c2, Int.add_zero]; exact i5
        · show _ = qLen s n f i + gM s n f (fun k => vv s k 3) i
          rw [gM_n c2, Int.add_zero]; exact i6
        · show _ = max (qBri s n f i) (gM s n f (fun k => vv s k 4) i)
          have := qBri_b (f := f) hs (Nat.le_of_lt hi)
          rw [gM_n c2]
          have e : max (qBri s n f i) 0 = qBri s n f i := by omega
          rw [e]; exact i7
        · rw [lT_s, lT_s, lT_s, lT_s, gM_n c2, gM_n c2, gM_n c2, gM_n c2, Int.add_zero, Int.add_zero, Int.add_zero, Int.add_zero]
          have e1 : qMan s n f (i + 1) = qMan s n f i := by
            show qMan s n f i + gM s n f (fun _ => 1) i = _
            rw [gM_n c2, Int.add_zero]
          have e2 : qByl s n f (i + 1) = qByl s n f i := by
            show qByl s n f i + gM s n f (fun k => vv s k 4 * vv s k 3) i = _
            rw [gM_n c2, Int.add_zero]
          rw [e1, e2]; exact i8
  · have hi : i < 12 := by
      rcases Nat.lt_or_ge i 12 with z | z
      · exact z
      · exact absurd (nI_le (a := 12) z (by omega)) y
    refine ⟨in_n (by omega) (by omega), i + 1, by omega, by omega, (nI_succ i).symm, g4, fun a ha => ?_⟩
    rw [ix_n (by omega)]
    show ml (mL μ' 4 i 0) 4 a = 0
    rw [ml_a4]
    by_cases e : a = i
    · rw [if_pos e]
    · rw [if_neg e]; exact g5 a (by omega)
