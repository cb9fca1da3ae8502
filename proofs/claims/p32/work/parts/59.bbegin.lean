/-! ===== cloud ===== -/
theorem br_cloud : Br_cloud Rep := by
  intro σ x μ p0 p1 hh
  obtain ⟨n0, n1, n2, n4, n5, n6, h, hG⟩ := id hh
  have hcam := h.2.1
  have hclo := h.2.2.1
  have hsis := h.2.2.2.2.1
  have h50 := hclo.1
  have hn5 := hclo.2.1
  have hx1 := hclo.2.2.1.1
  have d1 : cd_cloud 3 = 1 := by decide
  have d2 : cd_cloud 1 = 2 := by decide
  have d3 : cd_cloud 2 = 3 := by decide
  have i1 : ¬ (1 : Int32) ≤ 0 := by decide
  have i2 : ¬ (2 : Int32) ≤ 0 := by decide
  have i3 : ¬ (3 : Int32) ≤ 0 := by decide
  obtain ⟨oM1, rM1⟩ := mcl_i h50 hn5 p0 p1
  obtain ⟨oM2, w, rM2, rM3⟩ := mhs_i hsis.1 hsis.2.1 p0 p1 (any_zb rM1)
  have hM : f_X11_cloud μ p0 p1 = f_X11_cloud_57 μ p0 p1 w := by
    show f_X11_cloud_57 μ p0 p1 ((itr (s_X11_cloud_10 p0 p1 μ) FU (f_X11_isCloudy μ p0 p1, 0)).1) = _
    rw [rM2]
  have hOM : of_X11_cloud_57 μ p0 p1 w → of_X11_cloud μ p0 p1 := fun z => ⟨oM1, oM2, by
    show of_X11_cloud_57 μ p0 p1 ((itr (s_X11_cloud_10 p0 p1 μ) FU (f_X11_isCloudy μ p0 p1, 0)).1)
    rw [rM2]; exact z⟩
  obtain ⟨e1, e2, e3⟩ := cam_ex (x := x) p0 hcam
  have o99 : ∀ t, ¬ t ≤ (0 : Int32) → f_X11_cloud_99 μ p0 p1 t = (0, mI μ 0 0 t) ∧ of_X11_cloud_99 μ p0 p1 t := fun t ht => ⟨if_neg ht, fun z => absurd z ht, fun _ => trivial⟩
  have oN : of_X11_isNight p1 := ⟨by rcases in_or p1 0 3649 with ⟨-, a2, -⟩ | ⟨-, a2, -⟩ <;> (rw [a2]; unfold zb; decide), trivial⟩
  rcases e3 with ⟨c, hc, rfl, hix, h10, hF, hMc, hK⟩ | ⟨-, hF, hMc⟩
  · rcases in_or p1 0 3649 with ⟨a1, a2, a3⟩ | ⟨a1, a2, a3⟩
    · have hnight : f_X10_requireNight p1 = .ok () := by unfold f_X10_requireNight; rw [a3]; rfl
      have hisN : f_X11_isNight p1 = 1 := a2
      obtain ⟨oI, oI2, rI⟩ := cl_both (x := x) hcam hclo hc p1
      obtain ⟨oH, rH⟩ := hs_i (x := x) hcam hsis hc p1
      -- told before, or seen
      by_cases hw : w = 0
      · -- neither
        have hI0 : f_X10_isCloudy σ x (xe σ 0 c) p1 = 0 ∧ ¬ ∃ j, j < n1 ∧ mi μ 6 j = nI c ∧ mi μ 7 j = p1 := by
          rcases rI with ⟨r1, r2⟩ | ⟨r1, r2, r3⟩
          · rcases rM3 with ⟨z, -⟩ | ⟨-, z, -⟩
            · rw [hw] at z; exact absurd z.symm i_1ne0
            · rw [r2] at z; exact absurd z i_1ne0
          · exact ⟨r1, r3⟩
        have hH0 : f_X10_hasSighting σ x (xe σ 0 c) p1 = 0 := by
          rcases rH with ⟨r1, r2⟩ | ⟨r1, -⟩
          · rcases rM3 with ⟨z, -⟩ | ⟨-, -, z⟩
            · rw [hw] at z; exact absurd z.symm i_1ne0
            · exact absurd r2 z
          · exact r1
        by_cases hn : n1 < 50
        · have n50 : nI n1 < 50 := by rw [show (50 : Int32) = nI 50 from rfl, nI_ltI (by omega) (by omega)]; exact hn
          have m50 : ¬ mi μ 5 0 = 50 := by rw [hn5, show (50 : Int32) = nI 50 from rfl, nI_eq (by omega) (by omega)]; omega
          have hixn : ix (nI n1) = n1 := clamp_nI (by omega)
          have vin : vp_in (nI n1) 50 := nI_in hn (by decide)
          have hrep : ∀ nq, xk σ nq = 0 → Rep0 (xAdd (xI (xR (xNew σ 2 nq) 40 nq (xe σ 0 c)) 41 nq p1) 1 nq) x (mI (mI (mI (mI μ 0 0 0) 6 n1 (nI c)) 7 n1 p1) 5 0 (nI n1 + 1)) n0 (n1 + 1) n2 n4 n5 n6 := fun nq hq => cloud_rep hq hn hc a1 hI0.2 h
          have hcn : ∀ nq, xk σ nq = 0 → of_X10_cloudyNights (xAdd (xI (xR (xNew σ 2 nq) 40 nq (xe σ 0 c)) 41 nq p1) 1 nq) x (xe σ 0 c) 0 3649 ∧ f_X10_cloudyNights (xAdd (xI (xR (xNew σ 2 nq) 40 nq (xe σ 0 c)) 41 nq p1) 1 nq) x (xe σ 0 c) 0 3649 = nI (cdn (clB (mI (mI (mI (mI μ 0 0 0) 6 n1 (nI c)) 7 n1 p1) 5 0 (nI n1 + 1)) (nI c) 0 3649) (n1 + 1)) := fun nq hq => cn_i (x := x) (hrep nq hq).2.1 (hrep nq hq).2.2.1 hc 0 3649
          obtain ⟨k1, k2⟩ := mcn_i (μ := mI (mI (mI (mI μ 0 0 0) 6 n1 (nI c)) 7 n1 p1) 5 0 (nI n1 + 1)) (n1 := n1 + 1) (by omega) (by rw [mi_at, if_pos rfl, nI_succ]) (nI c)
          have hM99 : f_X11_cloud_57 μ (nI c) p1 w = f_X11_cloud_147 μ (nI c) p1 0 0 (mI (mI (mI (mI μ 0 0 0) 6 n1 (nI c)) 7 n1 p1) 5 0 (nI n1 + 1)) := by
            unfold f_X11_cloud_57
            rw [hMc, if_neg i_1ne0, hisN, if_neg i_1ne0, if_pos hw, if_neg m50]
            unfold f_X11_cloud_99
            rw [if_pos (by decide), hn5, hixn]
          have hM147 : f_X11_cloud_147 μ (nI c) p1 0 0 (mI (mI (mI (mI μ 0 0 0) 6 n1 (nI c)) 7 n1 p1) 5 0 (nI n1 + 1)) = (nI (cdn (fun j => decide (mi (mI (mI (mI (mI μ 0 0 0) 6 n1 (nI c)) 7 n1 p1) 5 0 (nI n1 + 1)) 6 j = nI c)) (n1 + 1)), mI (mI (mI (mI μ 0 0 0) 6 n1 (nI c)) 7 n1 p1) 5 0 (nI n1 + 1)) := by
            show ((itr (s_X11_cloud_147 (nI c) (mI (mI (mI (mI μ 0 0 0) 6 n1 (nI c)) 7 n1 p1) 5 0 (nI n1 + 1))) FU (0, 0)).1, _) = _
            rw [k2]
          -- every cloud's night is in the range
          have hcd : ∀ nq, xk σ nq = 0 → cdn (clB (mI (mI (mI (mI μ 0 0 0) 6 n1 (nI c)) 7 n1 p1) 5 0 (nI n1 + 1)) (nI c) 0 3649) (n1 + 1) = cdn (fun j => decide (mi (mI (mI (mI (mI μ 0 0 0) 6 n1 (nI c)) 7 n1 p1) 5 0 (nI n1 + 1)) 6 j = nI c)) (n1 + 1) := fun nq hq => cdn_c (n1 + 1) (fun j hj => by
            obtain ⟨d, -, -, -, -, d5⟩ := (hrep nq hq).2.2.1.2.2.2.1 j hj
            unfold clB
            by_cases z : mi (mI (mI (mI (mI μ 0 0 0) 6 n1 (nI c)) 7 n1 p1) 5 0 (nI n1 + 1)) 6 j = nI c
            · rw [decide_eq_true ⟨z, d5.1, d5.2⟩, decide_eq_true z]
            · rw [decide_eq_false (fun y => z y.1), decide_eq_false z])
          obtain ⟨μ', eμ⟩ : ∃ z, mI (mI (mI (mI μ 0 0 0) 6 n1 (nI c)) 7 n1 p1) 5 0 (nI n1 + 1) = z := ⟨_, rfl⟩
          have ht0 : mi μ' 0 0 = 0 := by rw [← eμ]; rfl
          have hsdt : sdt μ' n2 = sdt μ n2 := by rw [← eμ]; rfl
          have hOM9 : of_X11_cloud μ (nI c) p1 := by
            refine hOM ⟨e2, fun z => absurd (hMc.symm.trans z) i_1ne0, fun _ => ⟨oN, fun z => absurd (hisN.symm.trans z) i_1ne0, fun _ => ⟨fun _ => ⟨fun z => absurd z m50, fun _ => ⟨fun _ => ⟨by rw [hn5]; exact vin, by show vp_in (mi μ 5 0) 50; rw [hn5]; exact vin, ?_⟩, fun z => absurd (by decide) z⟩⟩, fun z => absurd hw z⟩⟩⟩
            rw [hn5, hixn]
            exact ⟨k1, trivial⟩
          rw [eμ] at hrep hcn hM99 hM147 hcd
          have hFo : ∀ nq, FL_cloud σ x (nI c) p1 nq = .ok (f_X10_cloudyNights (xAdd (xI (xR (xNew σ 2 nq) 40 nq (xe σ 0 c)) 41 nq p1) 1 nq) x (xe σ 0 c) 0 3649, xAdd (xI (xR (xNew σ 2 nq) 40 nq (xe σ 0 c)) 41 nq p1) 1 nq) := by
            intro nq
            show f_X10_cloud σ x nq (nI c) p1 = _
            unfold f_X10_cloud
            rw [hF, exb_i, hnight, exb_i, hI0.1, if_pos rfl, hH0, if_pos rfl, hx1, if_pos n50]
            rfl
          refine ⟨fun nq hq => ?_, no_er hFo, hOM9, fun nq f hq hq0 => ?_⟩
          · unfold of_X10_cloud
            rw [hF, exo_i, hnight, exo_i, hI0.1, hH0, hx1]
            refine ⟨e1, oI, fun _ => ⟨oH, fun _ => ⟨fun _ => ⟨⟨by rw [new_xk, if_pos rfl], ?_, trivial⟩, ?_, ?_, ?_, (hcn nq hq).1, trivial⟩, fun z => absurd n50 z⟩, fun z => absurd rfl z⟩, fun z => absurd rfl z⟩
            · rw [new_xk, if_neg (fun e => by rw [e, hq] at hK; exact absurd hK (by decide))]; exact hK
            · show xk (xNew σ 2 nq) nq = 2
              rw [new_xk, if_pos rfl]
            · show xn σ 1 ≤ 100
              rw [hx1]; omega
            · intro i hi
              have hi : i < n1 := by have : i < xn σ 1 := hi; rw [hx1] at this; exact this
              show xk (xNew σ 2 nq) (xe σ 1 i) = 2
              rw [new_xk, if_neg (lst_fresh hclo.2.2.1 hq (by decide) i hi)]
              exact hclo.2.2.1.2.1 i hi
          · refine cl_oI (hFo nq) (by rw [hM, hM99, hM147, (hcn nq hq).2, hcd nq hq]) ht0 ⟨n0, n1 + 1, n2, n4, n5, n6, hrep nq hq, ?_⟩ f
            rw [hsdt]
            have g : Agr σ (xI (xR (xNew σ 2 nq) 40 nq (xe σ 0 c)) 41 nq p1) := agr_I (agr_R (agr_new hq (by omega)) hq (by omega)) hq (by omega)
            have hG2 := agr_rg g (rep_l2 h).1 (rep_l2 h).2 hG
            exact hG2
        · have n50 : ¬ nI n1 < 50 := by rw [show (50 : Int32) = nI 50 from rfl, nI_ltI (by omega) (by omega)]; exact hn
          have m50 : mi μ 5 0 = 50 := by rw [hn5, show n1 = 50 from by omega]; rfl
          have hFe : ∀ nq, FL_cloud σ x (nI c) p1 nq = .error 2 := by
            intro nq
            show f_X10_cloud σ x nq (nI c) p1 = _
            unfold f_X10_cloud
            rw [hF, exb_i, hnight, exb_i, hI0.1, if_pos rfl, hH0, if_pos rfl, hx1, if_neg n50]
          have hMe : f_X11_cloud μ (nI c) p1 = (0, mI μ 0 0 3) := by
            rw [hM]
            unfold f_X11_cloud_57
            rw [hMc, if_neg i_1ne0, hisN, if_neg i_1ne0, if_pos hw, if_pos m50]
            exact (o99 3 i3).1
          refine ⟨fun nq hq => ?_, is_er hFe (Or.inr (Or.inr rfl)), hOM ⟨e2, fun z => absurd (hMc.symm.trans z) i_1ne0, fun _ => ⟨oN, fun z => absurd (hisN.symm.trans z) i_1ne0, fun _ => ⟨fun _ => ⟨fun _ => (o99 3 i3).2, fun z => absurd m50 z⟩, fun z => absurd hw z⟩⟩⟩, fun nq f _ _ => cl_eI hFe hMe (fr_refl μ) d3 (by decide) hh nq f⟩
          unfold of_X10_cloud
          rw [hF, exo_i, hnight, exo_i, hI0.1, hH0, hx1]
          exact ⟨e1, oI, fun _ => ⟨oH, fun _ => ⟨fun z => absurd z n50, fun _ => trivial⟩, fun z => absurd rfl z⟩, fun z => absurd rfl z⟩
      · have hw1 : w = 1 := by
          rcases rM3 with ⟨z, -⟩ | ⟨z, -⟩
          · exact z
          · exact absurd z hw
        have hMe : f_X11_cloud μ (nI c) p1 = (0, mI μ 0 0 3) := by
          rw [hM]
          unfold f_X11_cloud_57
          rw [hMc, if_neg i_1ne0, hisN, if_neg i_1ne0, if_neg hw]
          exact (o99 3 i3).1
        have hOe : of_X11_cloud μ (nI c) p1 := hOM ⟨e2, fun z => absurd (hMc.symm.trans z) i_1ne0, fun _ => ⟨oN, fun z => absurd (hisN.symm.trans z) i_1ne0, fun _ => ⟨fun z => absurd z hw, fun _ => (o99 3 i3).2⟩⟩⟩
        rcases rI with ⟨r1, r2⟩ | ⟨r1, r2, r3⟩
        · have hFe : ∀ nq, FL_cloud σ x (nI c) p1 nq = .error 2 := by
            intro nq
            show f_X10_cloud σ x nq (nI c) p1 = _
            unfold f_X10_cloud
            rw [hF, exb_i, hnight, exb_i, r1, if_neg i_1ne0]
          refine ⟨fun nq hq => ?_, is_er hFe (Or.inr (Or.inr rfl)), hOe, fun nq f _ _ => cl_eI hFe hMe (fr_refl μ) d3 (by decide) hh nq f⟩
          unfold of_X10_cloud
          rw [hF, exo_i, hnight, exo_i, r1]
          exact ⟨e1, oI, fun z => absurd z i_1ne0, fun _ => trivial⟩
        · have hH1 : f_X10_hasSighting σ x (xe σ 0 c) p1 = 1 := by
            rcases rH with ⟨z, -⟩ | ⟨-, z⟩
            · exact z
            · rcases rM3 with ⟨-, y⟩ | ⟨y, -⟩
              · rcases y with y | y
                · rw [r2] at y; exact absurd y.symm i_1ne0
                · exact absurd y z
              · exact absurd y hw
          have hFe : ∀ nq, FL_cloud σ x (nI c) p1 nq = .error 2 := by
            intro nq
            show f_X10_cloud σ x nq (nI c) p1 = _
            unfold f_X10_cloud
            rw [hF, exb_i, hnight, exb_i, r1, if_pos rfl, hH1, if_neg i_1ne0]
          refine ⟨fun nq hq => ?_, is_er hFe (Or.inr (Or.inr rfl)), hOe, fun nq f _ _ => cl_eI hFe hMe (fr_refl μ) d3 (by decide) hh nq f⟩
          unfold of_X10_cloud
          rw [hF, exo_i, hnight, exo_i, r1, hH1]
          exact ⟨e1, oI, fun _ => ⟨oH, fun z => absurd z i_1ne0, fun _ => trivial⟩, fun z => absurd rfl z⟩
    · have hnight : f_X10_requireNight p1 = .error 1 := by unfold f_X10_requireNight; rw [a3]; rfl
      have hisN : f_X11_isNight p1 = 0 := a2
      have hFe : ∀ nq, FL_cloud σ x (nI c) p1 nq = .error 1 := by
        intro nq
        show f_X10_cloud σ x nq (nI c) p1 = _
        unfold f_X10_cloud
        rw [hF, exb_i, hnight, exb_e]
      have hMe : f_X11_cloud μ (nI c) p1 = (0, mI μ 0 0 2) := by
        rw [hM]
        unfold f_X11_cloud_57
        rw [hMc, if_neg i_1ne0, hisN, if_pos rfl]
        exact (o99 2 i2).1
      refine ⟨fun nq hq => ?_, is_er hFe (Or.inr (Or.inl rfl)), hOM ⟨e2, fun z => absurd (hMc.symm.trans z) i_1ne0, fun _ => ⟨oN, fun _ => (o99 2 i2).2, fun z => absurd hisN z⟩⟩, fun nq f _ _ => cl_eI hFe hMe (fr_refl μ) d2 (by decide) hh nq f⟩
      unfold of_X10_cloud
      rw [hF, exo_i, hnight, exo_e]
      exact ⟨e1, trivial⟩
  · have hFe : ∀ nq, FL_cloud σ x p0 p1 nq = .error 3 := by
      intro nq
      show f_X10_cloud σ x nq p0 p1 = _
      unfold f_X10_cloud
      rw [hF, exb_e]
    have hMe : f_X11_cloud μ p0 p1 = (0, mI μ 0 0 1) := by
      rw [hM]
      unfold f_X11_cloud_57
      rw [hMc, if_pos rfl]
      exact (o99 1 i1).1
    refine ⟨fun nq hq => ?_, is_er hFe (Or.inl rfl), hOM ⟨e2, fun _ => (o99 1 i1).2, fun z => absurd hMc z⟩, fun nq f _ _ => cl_eI hFe hMe (fr_refl μ) d1 (by decide) hh nq f⟩
    unfold of_X10_cloud
    rw [hF, exo_e]
    exact ⟨e1, trivial⟩
