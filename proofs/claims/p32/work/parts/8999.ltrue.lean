/-! ===== the law's end: the stone and its fall ===== -/
section LAWU
variable {x : Nat} {μ ρ : MS} {σ : XS} {n n4 n5 : Nat} {X Y night : Int32}
theorem wu_1112 {W1 W2 : Nat → Int} {best : Int32} {m : Int} (h : GS σ x ρ 4 n n4 n5 0) (rx : rng 0 99 X) (ry : rng 0 99 Y) (rn : rng 0 3649 night) (hw : ∀ k, k < n → isF (JJ (sdt ρ n) n) k → WNd ρ n4 (sdt ρ n k 1) (W1 k) (W2 k)) (hb : BS (fun k => isF (JJ (sdt ρ n) n) k ∧ ¬ night < sdt ρ n k 1) (fun k => CHv ρ (zTx (sdt ρ n) n k) (zTy (sdt ρ n) n k) (W1 k) (W2 k) n5 (nI k) X Y) n best m) : w_L_law_m1112 x (fun v => v = 1) X Y night best μ σ := by
  obtain ⟨o1, o2⟩ := v_find (p3 := 100) (p4 := 1) h rx ry rn ⟨by decide, by decide⟩ ⟨by decide, by decide⟩
  unfold w_L_law_m1112
  refine ⟨o1, fun N hN hN0 => ?_⟩
  obtain ⟨τ, ow, e, hg⟩ := o2 N hN hN0
  have es : sdt (addM (mI ρ 0 0 0) 0 X Y night 100 ow (-1)) n = sdt ρ n := sdt_addM (mqs_thr 0 ρ 0)
  have hw' : ∀ k, k < n → isF (JJ (sdt (addM (mI ρ 0 0 0) 0 X Y night 100 ow (-1)) n) n) k → WNd (addM (mI ρ 0 0 0) 0 X Y night 100 ow (-1)) n4 (sdt (addM (mI ρ 0 0 0) 0 X Y night 100 ow (-1)) n k 1) (W1 k) (W2 k) := by
    rw [es]
    exact hw
  obtain ⟨p1, p2⟩ := v_fall hg hw'
  refine ⟨_, τ, e, oif_i (fun _ => ⟨p1, fun N hN hN0 => ?_⟩) (fun z => absurd rfl z)⟩
  obtain ⟨v, τ', m', e', hb'⟩ := p2 N hN hN0
  have ec : CHv (addM (mI ρ 0 0 0) 0 X Y night 100 ow (-1)) = CHv ρ := chv_c (fun a ha => by rcases ha with rfl | rfl | rfl | rfl <;> rfl)
  rw [es, ec] at hb'
  have hb2 : BS (fun k => isF (JJ (sdt ρ n) n) k ∧ ¬ night < sdt ρ n k 1) (fun k => CHv ρ (zTx (sdt ρ n) n k) (zTy (sdt ρ n) n k) (W1 k) (W2 k) n5 (nI k) X Y) n v m' := hb'
  exact ⟨v, τ', e', oif_i (fun _ => rfl) (fun z => absurd (bs_u hb2 hb) z)⟩
theorem wu_1017 (h : STt μ σ x ρ n n4 n5) (rx : rng 0 99 X) (ry : rng 0 99 Y) (rn : rng 0 3649 night) : w_L_law_m1017 x (fun v => v = 1) (nI n) X Y night (-1) 0 0 μ σ := by
  have hn := h.1
  have hs := gs_sok h.2.1
  have hz := st_lz h
  have hN := st_ln h
  have hk5 := h.2.2.2.1
  have hlw := h.2.2.2.2
  have z0 : (0 : Int64).toInt = 0 := by decide
  have hw : ∀ k, k < n → isF (JJ (sdt ρ n) n) k → WNd ρ n4 (sdt ρ n k 1) ((fun k => (mi μ 2 (2 * ix (sdt ρ n k 1))).toInt) k) ((fun k => (mi μ 2 (2 * ix (sdt ρ n k 1) + 1)).toInt) k) := by
    intro k hk _
    obtain ⟨nt, hnt, ent⟩ := hN k hk
    show WNd ρ n4 (sdt ρ n k 1) (mi μ 2 (2 * ix (sdt ρ n k 1))).toInt (mi μ 2 (2 * ix (sdt ρ n k 1) + 1)).toInt
    rw [ent, ix_n (by omega)]
    exact hlw nt hnt
  unfold w_L_law_m1017
  refine ⟨fun M v => ∃ k, k ≤ n ∧ n + 1 ≤ M + k ∧ v.2.2.1 = nI k ∧ KPr μ v.2.2.2 ∧ BS (fun k => isF (JJ (sdt ρ n) n) k ∧ ¬ night < sdt ρ n k 1) (fun k => CHv ρ (zTx (sdt ρ n) n k) (zTy (sdt ρ n) n k) ((fun k => (mi μ 2 (2 * ix (sdt ρ n k 1))).toInt) k) ((fun k => (mi μ 2 (2 * ix (sdt ρ n k 1) + 1)).toInt) k) n5 (nI k) X Y) k v.1 v.2.1.toInt, ⟨0, by omega, by omega, rfl, ⟨rfl, rfl, rfl⟩, by rw [z0]; exact bs_0 _ _⟩, fun v hv => ?_, fun M v hv => ?_⟩
  · obtain ⟨k, g1, g2, -⟩ := hv
    omega
  obtain ⟨w10, w11, w14, μ'⟩ := v
  obtain ⟨k, g1, g2, g3, g4, g5⟩ := hv
  dsimp only at g3 g4 g5 ⊢
  subst g3
  unfold b_L_law_1017
  refine oif_i (fun y => ?_) (fun y => ?_)
  · have e : k = n := by
      have := (nI_leI (by omega) (by omega)).mp y
      omega
    subst e
    exact wu_1112 h.2.1 rx ry rn hw g5
  · have hkn : k < n := by
      rcases Nat.lt_or_ge k n with z | z
      · exact z
      · exact absurd (nI_le z (by omega)) y
    have hz' := kp_lz g4 hz
    refine ⟨fun v => (v = nI k ∧ isF (JJ (sdt ρ n) n) k) ∨ (¬ v = nI k ∧ ¬ isF (JJ (sdt ρ n) n) k), wgroup hz' hs hkn (fun z => ?_) (fun z => ?_), fun v hv => ?_⟩
    · have hl := low_le (JJ (sdt ρ n) n) k
      by_cases e : low (JJ (sdt ρ n) n) k = k
      · exact Or.inl ⟨by rw [e], z, e⟩
      · exact Or.inr ⟨fun q => e ((nI_eq (by omega) (by omega)).mp q), fun q => e q.2⟩
    · exact Or.inr ⟨fun q => nI_m1 (k := k) (by omega) q.symm, fun q => z q.1⟩
    rcases hv with ⟨c1, c2⟩ | ⟨c1, c2⟩
    · obtain ⟨a1, -⟩ := z_rd hz' hkn
      obtain ⟨nt, hnt, ent⟩ := hN k hkn
      have v1 : vp_in (9 * nI k + 1) 64 := (z_in (b := 1) (by omega) (by omega)).1
      refine oif_i (fun _ => ⟨v1, ?_⟩) (fun z => absurd c1 z)
      rw [a1]
      refine oif_i (fun d => ?_) (fun d => ?_)
      · refine ⟨fun g => AL (sdt ρ n) n k g, wall hz' hs c2 (fun g hg => hg), fun g hg => ⟨v1, ?_⟩⟩
        have kq : KPr μ (mQ μ' 4 g) := g4
        have hg' : AL (sdt ρ n) n k ((mQ μ' 4 g).2 4) := hg
        have m2 : ∀ i, mi (mQ μ' 4 g) 2 i = mi μ 2 i := fun i => congrFun g4.2.2 i
        refine ⟨fun V => V.toInt = CHv ρ (zTx (sdt ρ n) n k) (zTy (sdt ρ n) n k) ((fun k => (mi μ 2 (2 * ix (sdt ρ n k 1))).toInt) k) ((fun k => (mi μ 2 (2 * ix (sdt ρ n k 1) + 1)).toInt) k) n5 (nI k) X Y, ?_, fun V hV => ?_⟩
        · rw [ent]
          refine lchance (s := sdt ρ n) (f := k) (n := n) (kp_lwk kq hk5) h.2.1.1.2.2.2.2.2.2.1 h.2.1.1.2.2.2.2.2.1 (kp_lw kq hlw) hnt hg' rx ry (fun V hV => ?_)
          rw [hV, m2, m2]
          show _ = CHv ρ (zTx (sdt ρ n) n k) (zTy (sdt ρ n) n k) (mi μ 2 (2 * ix (sdt ρ n k 1))).toInt (mi μ 2 (2 * ix (sdt ρ n k 1) + 1)).toInt n5 (nI k) X Y
          rw [ent, ix_n (by omega)]
        · unfold w_L_law_l1017_1106
          refine oif_i (fun cc => ?_) (fun cc => ?_)
          · refine ⟨k + 1, hkn, by omega, (nI_succ k).symm, kq, bs_n g5 (fun _ => ?_)⟩
            rw [lg_cmp_le, Int64.le_iff_toInt_le, hV] at cc
            exact cc
          · rw [lg_cmp_le, Int64.le_iff_toInt_le] at cc
            refine ⟨k + 1, hkn, by omega, (nI_succ k).symm, kq, ?_⟩
            show BS _ _ (k + 1) (nI k) V.toInt
            rw [hV] at cc ⊢
            exact bs_y g5 ⟨c2, i32_nlt.mpr d⟩ (Int.not_le.mp cc)
      · unfold w_L_law_l1017_1106
        exact ⟨k + 1, hkn, by omega, (nI_succ k).symm, g4, bs_n g5 (fun z => absurd (i32_nle.mp d) z.2)⟩
    · refine oif_i (fun q => absurd q c1) (fun _ => ?_)
      unfold w_L_law_l1017_1106
      exact ⟨k + 1, hkn, by omega, (nI_succ k).symm, g4, bs_n g5 (fun z => absurd z.1 c2)⟩
theorem wu_960 {t : Nat} (h : STt μ σ x ρ n n4 n5) (ht : t < 1000) : w_L_law_m960 x (fun v => v = 1) (nI n) (nI t) μ σ := by
  have kz : KPr μ (mZJ μ 4) := ⟨rfl, rfl, rfl⟩
  have x2 : nI t + 2 = nI (t + 2) := by rw [show (2 : Int32) = nI 2 from rfl, nI_add]
  have p0 : ¬ nI t < 0 := nI_pos (by omega)
  have p1 : ¬ nI t + 1 < 0 := by rw [nI_1]; exact nI_pos (by omega)
  have p2 : ¬ nI t + 2 < 0 := by rw [x2]; exact nI_pos (by omega)
  unfold w_L_law_m960
  refine ⟨p0, fun a => ⟨p1, fun b => ⟨p2, fun c => ?_⟩⟩⟩
  refine wu_1017 (st_kp kz h) (low_100 a) (low_100 b) ?_
  obtain ⟨nt, hnt, ent'⟩ := low_r c (m := 2) (by omega) (by omega)
  have ent : f_L_low c 2 = nI nt := ent'
  rw [ent]
  exact rng_of (L := 0) (H := 3649) rfl rfl (by rw [nI_toInt (by omega)]; omega)
/-! the turns -/
theorem wu_140 (h : STt μ σ x ρ 0 0 0) : w_L_law_m140 x (fun v => v = 1) 0 4 0 μ σ := by
  unfold w_L_law_m140
  refine ⟨fun M v => ∃ t n n4 n5 ρ, t ≤ 9 ∧ 10 ≤ M + t ∧ v.1 = nI n ∧ v.2.1 = nI (4 + 2 * t) ∧ v.2.2.1 = nI t ∧ n4 ≤ t ∧ STt v.2.2.2.1 v.2.2.2.2 x ρ n n4 n5, ⟨0, 0, 0, 0, ρ, by omega, by omega, rfl, rfl, rfl, Nat.le_refl _, h⟩, fun v hv => ?_, fun M v hv => ?_⟩
  · obtain ⟨t, n, n4, n5, ρ, g1, g2, -⟩ := hv
    omega
  obtain ⟨w5, w6, w7, μ', σ'⟩ := v
  obtain ⟨t, n, n4, n5, ρ', g1, g2, g3, g4, g5, g6, g7⟩ := hv
  dsimp only at g3 g4 g5 g7 ⊢
  subst g3
  subst g4
  subst g5
  have hn := g7.1
  have p0 : ¬ nI (4 + 2 * t) < 0 := nI_pos (by omega)
  have p1 : ¬ nI (4 + 2 * t) + 1 < 0 := by rw [nI_1]; exact nI_pos (by omega)
  have x2 : nI (4 + 2 * t) + 2 = nI (4 + 2 * (t + 1)) := by
    rw [show (2 : Int32) = nI 2 from rfl, nI_add]
    congr 1
  unfold b_L_law_140
  refine oif_i (fun y => wu_960 g7 (by omega)) (fun y => ⟨p0, fun a => ⟨p1, fun b => ?_⟩⟩)
  have ht : t < 9 := by
    rcases Nat.lt_or_ge t 9 with z | z
    · exact z
    · exact absurd (nI_le (a := 9) z (by omega)) y
  obtain ⟨c, hc, ec'⟩ := low_r a (m := 4) (by omega) (by omega)
  have ec : f_L_low a 4 = nI c := ec'
  rw [ec]
  refine oif_i (fun y7 => ?_) (fun y7 => ?_)
  · have h7 : 7 ≤ n := (nI_leI (a := 7) (by omega) (by omega)).mp y7
    have rw' : rng (-99) 99 (f_L_low (a >>> ((2 : Int32) &&& 31)) 21 - 10) := by
      have q : 0 ≤ (f_L_low (a >>> ((2 : Int32) &&& 31)) 21).toInt ∧ (f_L_low (a >>> ((2 : Int32) &&& 31)) 21).toInt < ((21 : Nat) : Int) := low_b _ (m := 21) (by omega) (by omega)
      have e10 : (10 : Int32).toInt = 10 := rfl
      refine rng_of (L := -99) (H := 99) rfl rfl ?_
      rw [i32_sub (m := 1000) (by rw [e10]; omega) (by omega), e10]
      omega
    exact wt_573 g7 (by omega) (by omega) hc rw' (fun μ2 τ ρ2 m4 m5 hm hs => ⟨t + 1, n, m4, m5, ρ2, by omega, by omega, rfl, x2, (nI_succ t).symm, by omega, hs⟩)
  · have h7 : n < 7 := by
      rcases Nat.lt_or_ge n 7 with z | z
      · exact z
      · exact absurd (nI_le (a := 7) z (by omega)) y7
    have i0 : ix (9 * nI n) = 9 * n := (z_in0 h7).2
    have y0 : vp_in (9 * nI n) 64 := (z_in0 h7).1
    rw [i0]
    exact ⟨y0, wt_192 g7 h7 (by omega) (fun μ2 τ ρ2 m4 m5 hm hs => ⟨t + 1, n + 1, m4, m5, ρ2, by omega, by omega, rfl, x2, (nI_succ t).symm, by omega, hs⟩) hc⟩
end LAWU
/-! the cameras -/
def cmM (μ : MS) (k : Nat) (a b d : Int32) : MS := mI (mI (mI μ 0 (3 * k) a) 0 (3 * k + 1) b) 0 (3 * k + 2) d
theorem cmM_at (μ : MS) (k : Nat) (a b d : Int32) (j : Nat) : mi (cmM μ k a b d) 0 j = if j = 3 * k + 2 then d else if j = 3 * k + 1 then b else if j = 3 * k then a else mi μ 0 j := by
  unfold cmM
  rw [mi_at, mi_at, mi_at]
theorem law_true {σ : XS} {x : Nat} (hx : 0 < x) (h : XI x 60 σ) : w_L_law μL σ x (fun v => v = 1) := by
  unfold w_L_law w_L_law_m27
  refine ⟨fun M v => ∃ k ρ, k ≤ 4 ∧ 5 ≤ M + k ∧ v.1 = nI k ∧ GS v.2.2 x ρ k 0 0 0 0 ∧ (∀ c, c < k → mi v.2.1 0 (3 * c) = mi ρ 2 c ∧ mi v.2.1 0 (3 * c + 1) = mi ρ 3 c ∧ mi v.2.1 0 (3 * c + 2) = mi ρ 4 c) ∧ ∀ j, mi v.2.1 2 j = 0, ⟨0, μ0, by omega, by omega, rfl, rep_gs (rep_0 σ x hx h) rfl rfl rfl rfl rfl rfl (by omega) (by omega) (by omega) (by omega) (by omega), fun c hc => absurd hc (Nat.not_lt_zero _), fun j => rfl⟩, fun v hv => ?_, fun M v hv => ?_⟩
  · obtain ⟨k, ρ, g1, g2, -⟩ := hv
    omega
  obtain ⟨w5, μ', σ'⟩ := v
  obtain ⟨k, ρ, g1, g2, g3, g4, g5, g6⟩ := hv
  dsimp only at g3 g4 g5 g6 ⊢
  subst g3
  unfold b_L_law_27
  refine oif_i (fun y => ?_) (fun y => ?_)
  · have e : k = 4 := by
      have := (nI_leI (a := 4) (b := k) (by omega) (by omega)).mp y
      omega
    subst e
    have z0 : (0 : Int32).toInt = 0 := rfl
    unfold w_L_law_m131
    refine wu_140 ⟨by omega, g4, ⟨g5, fun k hk => absurd hk (Nat.not_lt_zero _)⟩, ⟨by omega, g6 10, fun k hk => absurd hk (Nat.not_lt_zero _)⟩, fun nt hnt => Or.inr ⟨fun j hj => absurd hj (Nat.not_lt_zero _), ?_, ?_⟩⟩
    · rw [g6]
      exact z0
    · rw [g6]
      exact z0
  · have hk : k < 4 := by
      rcases Nat.lt_or_ge k 4 with z | z
      · exact z
      · exact absurd (nI_le (a := 4) z (by omega)) y
    have j0 : ix (3 * nI k) = 3 * k := (c_in0 hk).2
    have l0 : vp_in (3 * nI k) 16 := (c_in0 hk).1
    have j1 : ix (3 * nI k + 1) = 3 * k + 1 := (c_in (b := 1) hk (by omega)).2
    have l1 : vp_in (3 * nI k + 1) 16 := (c_in (b := 1) hk (by omega)).1
    have j2 : ix (3 * nI k + 2) = 3 * k + 2 := (c_in (b := 2) hk (by omega)).2
    have l2 : vp_in (3 * nI k + 2) 16 := (c_in (b := 2) hk (by omega)).1
    refine ⟨nI_pos (by omega), fun w => ⟨l0, ?_⟩⟩
    obtain ⟨a, ea⟩ : ∃ z, z = f_L_low w 100 := ⟨_, rfl⟩
    obtain ⟨b, eb⟩ : ∃ z, z = f_L_low (w >>> ((7 : Int32) &&& 31)) 100 := ⟨_, rfl⟩
    obtain ⟨d, ed⟩ : ∃ z, z = f_L_low (w >>> ((14 : Int32) &&& 31)) 11 - 5 := ⟨_, rfl⟩
    have ra : rng 0 99 a := by rw [ea]; exact low_100 _
    have rb : rng 0 99 b := by rw [eb]; exact low_100 _
    have rd : rng (-99) 99 d := by
      have q : 0 ≤ (f_L_low (w >>> ((14 : Int32) &&& 31)) 11).toInt ∧ (f_L_low (w >>> ((14 : Int32) &&& 31)) 11).toInt < ((11 : Nat) : Int) := low_b _ (m := 11) (by omega) (by omega)
      have e5 : (5 : Int32).toInt = 5 := rfl
      rw [ed]
      refine rng_of (L := -99) (H := 99) rfl rfl ?_
      rw [i32_sub (m := 1000) (by rw [e5]; omega) (by omega), e5]
      omega
    rw [j0, ← ea]
    unfold w_L_law_l27_54
    rw [j1, ← eb]
    refine ⟨l1, ?_⟩
    unfold w_L_law_l27_72
    rw [j2, ← ed]
    refine ⟨l2, ?_⟩
    show w_L_law_l27_92 x (fun v => v = 1) (nI k) μ' σ' _ _ (nI k) (cmM μ' k a b d) σ'
    unfold w_L_law_l27_92
    have r0 : mi (cmM μ' k a b d) 0 (3 * k) = a := by rw [cmM_at, if_neg (by omega), if_neg (by omega), if_pos rfl]
    have r1 : mi (cmM μ' k a b d) 0 (3 * k + 1) = b := by rw [cmM_at, if_neg (by omega), if_pos rfl]
    have r2 : mi (cmM μ' k a b d) 0 (3 * k + 2) = d := by rw [cmM_at, if_pos rfl]
    rw [j0, j1, j2, r0, r1, r2]
    obtain ⟨o1, o2⟩ := v_camera g4 (by omega) ra rb rd
    refine ⟨l0, l1, l2, o1, fun N hN hN0 => ?_⟩
    obtain ⟨τ, e, hg⟩ := o2 N hN hN0
    refine ⟨_, τ, e, oif_i (fun _ => ?_) (fun z => absurd rfl z)⟩
    refine ⟨k + 1, camM ρ k a b d, by omega, by omega, (nI_succ k).symm, hg, fun c hc => ?_, fun j => ?_⟩
    · have m2 : mi (camM ρ k a b d) 2 c = if c = k then a else mi ρ 2 c := by
        show mi (mI ρ 2 k a) 2 c = _
        rw [mi_at]
      have m3 : mi (camM ρ k a b d) 3 c = if c = k then b else mi ρ 3 c := by
        show mi (mI ρ 3 k b) 3 c = _
        rw [mi_at]
      have m4 : mi (camM ρ k a b d) 4 c = if c = k then d else mi ρ 4 c := by
        show mi (mI ρ 4 k d) 4 c = _
        rw [mi_at]
      show mi (cmM μ' k a b d) 0 (3 * c) = _ ∧ mi (cmM μ' k a b d) 0 (3 * c + 1) = _ ∧ mi (cmM μ' k a b d) 0 (3 * c + 2) = _
      rw [m2, m3, m4]
      by_cases q : c = k
      · rw [if_pos q, if_pos q, if_pos q, q]
        exact ⟨r0, r1, r2⟩
      · rw [if_neg q, if_neg q, if_neg q, cmM_at, cmM_at, cmM_at, if_neg (by omega), if_neg (by omega), if_neg (by omega), if_neg (by omega), if_neg (by omega), if_neg (by omega), if_neg (by omega), if_neg (by omega), if_neg (by omega)]
        exact g5 c (by omega)
    · show mi (cmM μ' k a b d) 2 j = 0
      exact g6 j
