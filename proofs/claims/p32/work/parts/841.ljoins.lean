/-! ===== the law's methods: what they ask, and that they keep it ===== -/
theorem cw_L_85 : CWV RL RX10 85 yX10_camera cX10_camera 4 (some .int) 3 := ⟨q_280, q_281, q_282, q_26, q_283, rfl, ⟨by decide +kernel, by decide +kernel, by decide +kernel⟩⟩
theorem cw_L_97 : CWV RL RX10 97 yX10_clock cX10_clock 5 (some .int) 2 := ⟨q_403, q_404, q_405, q_26, q_406, rfl, ⟨by decide +kernel, by decide +kernel, by decide +kernel⟩⟩
theorem cw_L_89 : CWV RL RX10 89 yX10_begin cX10_begin 7 none 5 := ⟨q_541, q_542, q_543, q_26, q_544, rfl, ⟨by decide +kernel, by decide +kernel, by decide +kernel⟩⟩
theorem cw_L_93 : CWV RL RX10 93 yX10_end cX10_end 6 (some .int) 4 := ⟨q_612, q_613, q_614, q_26, q_615, rfl, ⟨by decide +kernel, by decide +kernel, by decide +kernel⟩⟩
theorem cw_L_100 : CWV RL RX10 100 yX10_wind cX10_wind 5 none 3 := ⟨q_623, q_624, q_625, q_26, q_626, rfl, ⟨by decide +kernel, by decide +kernel, by decide +kernel⟩⟩
theorem cw_L_104 : CWV RL RX10 104 yX10_walk cX10_walk 6 (some .long) 4 := ⟨q_649, q_650, q_651, q_26, q_652, rfl, ⟨by decide +kernel, by decide +kernel, by decide +kernel⟩⟩
theorem cw_L_112 : CWV RL RX10 112 yX10_find cX10_find 9 (some .int) 5 := ⟨q_748, q_749, q_750, q_26, q_751, rfl, ⟨by decide +kernel, by decide +kernel, by decide +kernel⟩⟩
theorem cw_L_116 : CWV RL RX10 116 yX10_fall cX10_fall 2 (some .int) 1 := ⟨q_815, q_816, q_817, q_26, q_818, rfl, ⟨by decide +kernel, by decide +kernel, by decide +kernel⟩⟩
theorem cw_L_81 : CWS RL 81 yL_cell cL_cell 2 (some .int) 2 := ⟨q_828, q_829, q_25, q_830, ⟨by decide +kernel, by decide +kernel, by decide +kernel⟩⟩
theorem cw_L_70 : CWS RL 70 yL_low cL_low 2 (some .int) 2 := ⟨q_833, q_834, q_25, q_835, ⟨by decide +kernel, by decide +kernel, by decide +kernel⟩⟩
theorem cw_L_26 : CWS RL 26 yL_group cL_group 9 (some .int) 4 := ⟨q_837, q_838, q_25, q_839, ⟨by decide +kernel, by decide +kernel, by decide +kernel⟩⟩
theorem cw_L_22 : CWS RL 22 yL_joins cL_joins 6 (some .boolean) 4 := ⟨q_840, q_841, q_25, q_842, ⟨by decide +kernel, by decide +kernel, by decide +kernel⟩⟩
theorem cw_L_18 : CWS RL 18 yL_cross cL_cross 26 (some .boolean) 6 := ⟨q_843, q_844, q_25, q_845, ⟨by decide +kernel, by decide +kernel, by decide +kernel⟩⟩
theorem cw_L_12 : CWS RL 12 yL_down cL_down 6 (some .long) 2 := ⟨q_847, q_848, q_25, q_849, ⟨by decide +kernel, by decide +kernel, by decide +kernel⟩⟩
theorem cw_L_58 : CWS RL 58 yL_all cL_all 18 none 5 := ⟨q_851, q_852, q_25, q_853, ⟨by decide +kernel, by decide +kernel, by decide +kernel⟩⟩
theorem cw_L_78 : CWS RL 78 yL_chance cL_chance 10 (some .long) 6 := ⟨q_858, q_859, q_25, q_860, ⟨by decide +kernel, by decide +kernel, by decide +kernel⟩⟩
theorem cw_L_42 : CWS RL 42 yL_weight cL_weight 15 (some .long) 6 := ⟨q_861, q_862, q_25, q_863, ⟨by decide +kernel, by decide +kernel, by decide +kernel⟩⟩
theorem cw_L_108 : CWS RL 108 yL_right cL_right 11 (some .boolean) 6 := ⟨q_866, q_867, q_25, q_868, ⟨by decide +kernel, by decide +kernel, by decide +kernel⟩⟩
theorem cw_L_46 : CWV RL RX10 46 yX10_fireball cX10_fireball 2 (some .int) 1 := ⟨q_869, q_870, q_871, q_26, q_872, rfl, ⟨by decide +kernel, by decide +kernel, by decide +kernel⟩⟩
theorem cw_L_52 : CWV RL RX10 52 yX10_fireballAnew cX10_fireballAnew 5 (some .int) 1 := ⟨q_878, q_879, q_880, q_26, q_881, rfl, ⟨by decide +kernel, by decide +kernel, by decide +kernel⟩⟩
theorem cw_L_55 : CWV RL RX10 55 yX10_fireballs cX10_fireballs 2 (some .int) 1 := ⟨q_886, q_887, q_888, q_26, q_889, rfl, ⟨by decide +kernel, by decide +kernel, by decide +kernel⟩⟩
theorem cw_L_62 : CWV RL RX10 62 yX10_told cX10_told 4 (some .long) 2 := ⟨q_894, q_895, q_896, q_26, q_897, rfl, ⟨by decide +kernel, by decide +kernel, by decide +kernel⟩⟩
theorem cw_L_74 : CWV RL RX10 74 yX10_chance cX10_chance 5 (some .long) 3 := ⟨q_904, q_905, q_906, q_26, q_907, rfl, ⟨by decide +kernel, by decide +kernel, by decide +kernel⟩⟩
def w_L_cross_m213 (p2 : Int32) (p3 : Int32) (p4 : Int32) (K : Int32 → (Nat → Int64) → Prop) (v6_213 : Int32) (v10_213 : Int64) (v16_213 : Int64) (v22_213 : Int64) (μ_213 : MS) : Prop := (vp_in (v6_213 + 1) 16 ∧ (¬ v16_213 = 0 ∧ (K 1 ((mL μ_213 5 (ix 1) (f_L_down (100 * ((((mi μ_213 0 (ix (v6_213 + 1))).toInt64) * v16_213) + (v22_213 * v10_213))) v16_213)).2 5))))
def w_L_cross_m170 (p2 : Int32) (p3 : Int32) (p4 : Int32) (K : Int32 → (Nat → Int64) → Prop) (v6_170 : Int32) (v8_170 : Int64) (v10_170 : Int64) (v16_170 : Int64) (v22_170 : Int64) (v24_170 : Int64) (μ_170 : MS) : Prop := (oif ((lg_cmp v22_170 0) ≤ 0) (K 0 (μ_170.2 5)) (oif (0 < (lg_cmp v24_170 0)) (vp_in v6_170 16 ∧ (¬ v16_170 = 0 ∧ (w_L_cross_m213 p2 p3 p4 K v6_170 v10_170 v16_170 v22_170 (mL μ_170 5 (ix 0) (f_L_down (100 * ((((mi μ_170 0 (ix v6_170)).toInt64) * v16_170) + (v22_170 * v8_170))) v16_170))))) (K 0 (μ_170.2 5))))
def w_L_cross_m148 (p2 : Int32) (p3 : Int32) (p4 : Int32) (K : Int32 → (Nat → Int64) → Prop) (v6_148 : Int32) (v8_148 : Int64) (v10_148 : Int64) (v16_148 : Int64) (v22_148 : Int64) (v24_148 : Int64) (μ_148 : MS) : Prop := (oif (0 ≤ (lg_cmp v16_148 0)) (w_L_cross_m170 p2 p3 p4 K v6_148 v8_148 v10_148 v16_148 v22_148 v24_148 μ_148) (w_L_cross_m170 p2 p3 p4 K v6_148 v8_148 v10_148 (-v16_148) (-v22_148) (-v24_148) μ_148))
def w_L_cross_m122 (p2 : Int32) (p3 : Int32) (p4 : Int32) (K : Int32 → (Nat → Int64) → Prop) (v6_122 : Int32) (v8_122 : Int64) (v10_122 : Int64) (v12_122 : Int64) (v14_122 : Int64) (v16_122 : Int64) (v18_122 : Int64) (v20_122 : Int64) (μ_122 : MS) : Prop := (w_L_cross_m148 p2 p3 p4 K v6_122 v8_122 v10_122 v16_122 ((v18_122 * v14_122) - (v20_122 * v12_122)) ((v18_122 * v10_122) - (v20_122 * v8_122)) μ_122)
def w_L_cross_m106 (p2 : Int32) (p3 : Int32) (p4 : Int32) (K : Int32 → (Nat → Int64) → Prop) (v6_106 : Int32) (v7_106 : Int32) (v8_106 : Int64) (v10_106 : Int64) (v12_106 : Int64) (v14_106 : Int64) (v16_106 : Int64) (v18_106 : Int64) (μ_106 : MS) : Prop := (vp_in (v7_106 + 1) 16 ∧ (vp_in (v6_106 + 1) 16 ∧ (w_L_cross_m122 p2 p3 p4 K v6_106 v8_106 v10_106 v12_106 v14_106 v16_106 v18_106 (((mi μ_106 0 (ix (v7_106 + 1))) - (mi μ_106 0 (ix (v6_106 + 1)))).toInt64) μ_106)))
def w_L_cross_m72 (p2 : Int32) (p3 : Int32) (p4 : Int32) (K : Int32 → (Nat → Int64) → Prop) (v6_72 : Int32) (v7_72 : Int32) (v8_72 : Int64) (v10_72 : Int64) (v12_72 : Int64) (v14_72 : Int64) (μ_72 : MS) : Prop := (oif ((lg_cmp ((v8_72 * v14_72) - (v10_72 * v12_72)) 0) = 0) (K 0 (μ_72.2 5)) (vp_in v7_72 16 ∧ (vp_in v6_72 16 ∧ (w_L_cross_m106 p2 p3 p4 K v6_72 v7_72 v8_72 v10_72 v12_72 v14_72 ((v8_72 * v14_72) - (v10_72 * v12_72)) (((mi μ_72 0 (ix v7_72)) - (mi μ_72 0 (ix v6_72))).toInt64) μ_72))))
def w_L_cross_m46 (p2 : Int32) (p3 : Int32) (p4 : Int32) (K : Int32 → (Nat → Int64) → Prop) (v6_46 : Int32) (v7_46 : Int32) (v8_46 : Int64) (v10_46 : Int64) (μ_46 : MS) : Prop := (vp_in ((9 * p3) + p4) 64 ∧ (vp_in (((9 * p3) + p4) + 1) 64 ∧ (w_L_cross_m72 p2 p3 p4 K v6_46 v7_46 v8_46 v10_46 ((mi μ_46 1 (ix ((9 * p3) + p4))).toInt64) ((mi μ_46 1 (ix (((9 * p3) + p4) + 1))).toInt64) μ_46)))
def w_L_cross (μ : MS) (p2 : Int32) (p3 : Int32) (p4 : Int32) (K : Int32 → (Nat → Int64) → Prop) : Prop := (vp_in (9 * p2) 64 ∧ (vp_in (9 * p3) 64 ∧ (vp_in ((9 * p2) + p4) 64 ∧ (vp_in (((9 * p2) + p4) + 1) 64 ∧ (w_L_cross_m46 p2 p3 p4 K (3 * (mi μ 1 (ix (9 * p2)))) (3 * (mi μ 1 (ix (9 * p3)))) ((mi μ 1 (ix ((9 * p2) + p4))).toInt64) ((mi μ 1 (ix (((9 * p2) + p4) + 1))).toInt64) μ)))))
set_option maxHeartbeats 4000000 in
set_option maxRecDepth 100000 in
theorem k_L_cross (l : Launch) (D : va_G) (a : Nat → ClassId) (A : Nat → Prop) (q0 : Nat) (q1 : Nat) (q5 : Nat) (μ : MS) (p2 : Int32) (p3 : Int32) (p4 : Int32) (K : Int32 → (Nat → Int64) → Prop) (hA5 : A q5) (hok : w_L_cross μ p2 p3 p4 K) : KG l yL_cross cL_cross 26 (some .boolean) 1 25 0 0 [.ref q0, .ref q1, .int p2, .int p3, .int p4, .ref q5] A (BLa D a A [(q0, .inl (a 0, 16, .inl (μ.1 0))), (q1, .inl (a 0, 64, .inl (μ.1 1))), (q5, .inl (a 1, 4, .inr (.inl (μ.2 5))))]) (fun _ v H1 => ∃ (v9 : Int32) (g9 : Nat → Int64), K v9 g9 ∧ v = some (.int v9) ∧ va_at D vwCl (q5, .inl (a 1, 4, .inr (.inl g9))) H1) := by
  refine goGz (D := D) (a := a) (by decide +kernel) bla_good (Nat.le_of_ble_eq_true rfl) ?_
  intro p e s m args below meth c ls R Q hRf hRl hRc hRs C hB hl ret
  obtain ⟨-, hAf, hP, hD⟩ := hB
  have hM : HL D a 0 0 A [(q0, .inl (a 0, 16, .inl (μ.1 0))), (q1, .inl (a 0, 64, .inl (μ.1 1))), (q5, .inl (a 1, 4, .inr (.inl (μ.2 5))))] none s.heap s.heap [] := ⟨hP, hD, va_S.rf, trivial⟩
  have hl : lv_has ls 26 [(0, .ref q0), (1, .ref q1), (2, .int p2), (3, .int p3), (4, .int p4), (5, .ref q5)] := hl
  have hx := C.1.1
  have hb := C.1.2.1
  have hts := C.1.2.2.2.2
  have hown := C.1.2.2.2.1
  have J_m213 : ∀  (v6_213 : Int32) (v10_213 : Int64) (v16_213 : Int64) (v22_213 : Int64) (μ_213 : MS), w_L_cross_m213 p2 p3 p4 K v6_213 v10_213 v16_213 v22_213 μ_213 → ∀ (H : Heap) (locs : List Loc) (ls : Array Slot), HL D a 0 0 A [(q0, .inl (a 0, 16, .inl (μ_213.1 0))), (q1, .inl (a 0, 64, .inl (μ_213.1 1))), (q5, .inl (a 1, 4, .inr (.inl (μ_213.2 5))))] none s.heap H locs → lv_has ls 26 [(0, .ref q0), (5, .ref q5), (6, .int v6_213), (10, .long v10_213), (16, .long v16_213), (22, .long v22_213)] → W p l e R s m args below meth c H locs 0 0 Q (F0 m 213 ls []) := by
    intro v6_213 v10_213 v16_213 v22_213 μ_213 hok H locs ls hM hl
    refine lv_aload hx hb dL_cross_213 (lv_at hl 1 rfl) ?_
    refine lv_iconst (v := 1) hx hb dL_cross_215 (by decide) ?_
    refine lv_ldc2 (v := 100) hx hb hown (hts _ q_846) dL_cross_216 ?_
    refine lv_aload_n hx hb dL_cross_219 rfl (lv_at hl 0 rfl) ?_
    refine lv_iload hx hb dL_cross_220 (lv_at hl 2 rfl) ?_
    refine lv_iconst (v := 1) hx hb dL_cross_222 (by decide) ?_
    refine lv_iadd hx hb dL_cross_223 ?_
    have ok_17 := And.left hok
    have hok := And.right hok
    refine la_I C hM 0 rfl ok_17 dL_cross_224 ?_
    refine lv_i2l (v := ((mi μ_213 0 (ix (v6_213 + 1))).toInt64)) hx hb dL_cross_225 rfl ?_
    refine lv_lload hx hb dL_cross_226 (lv_at hl 4 rfl) ?_
    refine lv_lmul hx hb dL_cross_228 ?_
    refine lv_lload hx hb dL_cross_229 (lv_at hl 5 rfl) ?_
    refine lv_lload hx hb dL_cross_231 (lv_at hl 3 rfl) ?_
    refine lv_lmul hx hb dL_cross_233 ?_
    refine lv_ladd hx hb dL_cross_234 ?_
    refine lv_lmul hx hb dL_cross_235 ?_
    refine lv_lload hx hb dL_cross_236 (lv_at hl 4 rfl) ?_
    have ok_18 := And.left hok
    have hok := And.right hok
    refine lc_S (av := [.long (100 * ((((mi μ_213 0 (ix (v6_213 + 1))).toInt64) * v16_213) + (v22_213 * v10_213))), .long v16_213]) C (k_L_down l D a (100 * ((((mi μ_213 0 (ix (v6_213 + 1))).toInt64) * v16_213) + (v22_213 * v10_213))) v16_213 ok_18) cw_L_12 (okR_of hRf hRl (Nat.le_of_ble_eq_true rfl) (Nat.le_of_ble_eq_true rfl)) rfl rfl hl.1 (Nat.le_of_ble_eq_true rfl) (by omega) (by omega) dL_cross_238 ?_
    refine ls_J C hM 2 rfl hA5 (lit_in (by decide) (by decide)) dL_cross_241 (fun H locs hM => ?_)
    have hM : HL D a 0 0 A [(q0, .inl (a 0, 16, .inl ((mL μ_213 5 (ix 1) (f_L_down (100 * ((((mi μ_213 0 (ix (v6_213 + 1))).toInt64) * v16_213) + (v22_213 * v10_213))) v16_213)).1 0))), (q1, .inl (a 0, 64, .inl ((mL μ_213 5 (ix 1) (f_L_down (100 * ((((mi μ_213 0 (ix (v6_213 + 1))).toInt64) * v16_213) + (v22_213 * v10_213))) v16_213)).1 1))), (q5, .inl (a 1, 4, .inr (.inl ((mL μ_213 5 (ix 1) (f_L_down (100 * ((((mi μ_213 0 (ix (v6_213 + 1))).toInt64) * v16_213) + (v22_213 * v10_213))) v16_213)).2 5))))] none s.heap H locs := hM
    refine lv_iconst (v := 1) hx hb dL_cross_242 (by decide) ?_
    exact ret _ _ _ _ _ hM.2.2.1 dL_cross_243 (by unfold zb; decide) ⟨_, _, hok, rfl, hM.1 2 _ rfl⟩
  have J_m170 : ∀  (v6_170 : Int32) (v8_170 : Int64) (v10_170 : Int64) (v16_170 : Int64) (v22_170 : Int64) (v24_170 : Int64) (μ_170 : MS), w_L_cross_m170 p2 p3 p4 K v6_170 v8_170 v10_170 v16_170 v22_170 v24_170 μ_170 → ∀ (H : Heap) (locs : List Loc) (ls : Array Slot), HL D a 0 0 A [(q0, .inl (a 0, 16, .inl (μ_170.1 0))), (q1, .inl (a 0, 64, .inl (μ_170.1 1))), (q5, .inl (a 1, 4, .inr (.inl (μ_170.2 5))))] none s.heap H locs → lv_has ls 26 [(0, .ref q0), (5, .ref q5), (6, .int v6_170), (8, .long v8_170), (10, .long v10_170), (16, .long v16_170), (22, .long v22_170), (24, .long v24_170)] → W p l e R s m args below meth c H locs 0 0 Q (F0 m 170 ls []) := by
    intro v6_170 v8_170 v10_170 v16_170 v22_170 v24_170 μ_170 hok H locs ls hM hl
    refine lv_lload hx hb dL_cross_170 (lv_at hl 6 rfl) ?_
    refine lv_lconst (v := 0) hx hb dL_cross_172 (by decide) ?_
    refine W.lcmp hx hb dL_cross_173 ?_
    refine lv_if_le (tgt := 184) hx hb dL_cross_174 (by decide) (fun c_13 => ?_) (fun c_13 => ?_)
    · have hok := oif_pos hok c_13
      refine lv_iconst (v := 0) hx hb dL_cross_184 (by decide) ?_
      exact ret _ _ _ _ _ hM.2.2.1 dL_cross_185 (by unfold zb; decide) ⟨_, _, hok, rfl, hM.1 2 _ rfl⟩
    · have hok := oif_neg hok c_13
      refine lv_lload hx hb dL_cross_177 (lv_at hl 7 rfl) ?_
      refine lv_lconst (v := 0) hx hb dL_cross_179 (by decide) ?_
      refine W.lcmp hx hb dL_cross_180 ?_
      refine lv_if_gt (tgt := 186) hx hb dL_cross_181 (by decide) (fun c_14 => ?_) (fun c_14 => ?_)
      · have hok := oif_pos hok c_14
        refine lv_aload hx hb dL_cross_186 (lv_at hl 1 rfl) ?_
        refine lv_iconst (v := 0) hx hb dL_cross_188 (by decide) ?_
        refine lv_ldc2 (v := 100) hx hb hown (hts _ q_846) dL_cross_189 ?_
        refine lv_aload_n hx hb dL_cross_192 rfl (lv_at hl 0 rfl) ?_
        refine lv_iload hx hb dL_cross_193 (lv_at hl 2 rfl) ?_
        have ok_15 := And.left hok
        have hok := And.right hok
        refine la_I C hM 0 rfl ok_15 dL_cross_195 ?_
        refine lv_i2l (v := ((mi μ_170 0 (ix v6_170)).toInt64)) hx hb dL_cross_196 rfl ?_
        refine lv_lload hx hb dL_cross_197 (lv_at hl 5 rfl) ?_
        refine lv_lmul hx hb dL_cross_199 ?_
        refine lv_lload hx hb dL_cross_200 (lv_at hl 6 rfl) ?_
        refine lv_lload hx hb dL_cross_202 (lv_at hl 3 rfl) ?_
        refine lv_lmul hx hb dL_cross_204 ?_
        refine lv_ladd hx hb dL_cross_205 ?_
        refine lv_lmul hx hb dL_cross_206 ?_
        refine lv_lload hx hb dL_cross_207 (lv_at hl 5 rfl) ?_
        have ok_16 := And.left hok
        have hok := And.right hok
        refine lc_S (av := [.long (100 * ((((mi μ_170 0 (ix v6_170)).toInt64) * v16_170) + (v22_170 * v8_170))), .long v16_170]) C (k_L_down l D a (100 * ((((mi μ_170 0 (ix v6_170)).toInt64) * v16_170) + (v22_170 * v8_170))) v16_170 ok_16) cw_L_12 (okR_of hRf hRl (Nat.le_of_ble_eq_true rfl) (Nat.le_of_ble_eq_true rfl)) rfl rfl hl.1 (Nat.le_of_ble_eq_true rfl) (by omega) (by omega) dL_cross_209 ?_
        refine ls_J C hM 2 rfl hA5 (lit_in (by decide) (by decide)) dL_cross_212 (fun H locs hM => ?_)
        have hM : HL D a 0 0 A [(q0, .inl (a 0, 16, .inl ((mL μ_170 5 (ix 0) (f_L_down (100 * ((((mi μ_170 0 (ix v6_170)).toInt64) * v16_170) + (v22_170 * v8_170))) v16_170)).1 0))), (q1, .inl (a 0, 64, .inl ((mL μ_170 5 (ix 0) (f_L_down (100 * ((((mi μ_170 0 (ix v6_170)).toInt64) * v16_170) + (v22_170 * v8_170))) v16_170)).1 1))), (q5, .inl (a 1, 4, .inr (.inl ((mL μ_170 5 (ix 0) (f_L_down (100 * ((((mi μ_170 0 (ix v6_170)).toInt64) * v16_170) + (v22_170 * v8_170))) v16_170)).2 5))))] none s.heap H locs := hM
        exact J_m213 v6_170 v10_170 v16_170 v22_170 (mL μ_170 5 (ix 0) (f_L_down (100 * ((((mi μ_170 0 (ix v6_170)).toInt64) * v16_170) + (v22_170 * v8_170))) v16_170)) hok _ _ ls hM (lv_sub hl [0, 1, 2, 4, 5, 6] rfl)
      · have hok := oif_neg hok c_14
        refine lv_iconst (v := 0) hx hb dL_cross_184 (by decide) ?_
        exact ret _ _ _ _ _ hM.2.2.1 dL_cross_185 (by unfold zb; decide) ⟨_, _, hok, rfl, hM.1 2 _ rfl⟩
  have J_m148 : ∀  (v6_148 : Int32) (v8_148 : Int64) (v10_148 : Int64) (v16_148 : Int64) (v22_148 : Int64) (v24_148 : Int64) (μ_148 : MS), w_L_cross_m148 p2 p3 p4 K v6_148 v8_148 v10_148 v16_148 v22_148 v24_148 μ_148 → ∀ (H : Heap) (locs : List Loc) (ls : Array Slot), HL D a 0 0 A [(q0, .inl (a 0, 16, .inl (μ_148.1 0))), (q1, .inl (a 0, 64, .inl (μ_148.1 1))), (q5, .inl (a 1, 4, .inr (.inl (μ_148.2 5))))] none s.heap H locs → lv_has ls 26 [(0, .ref q0), (5, .ref q5), (6, .int v6_148), (8, .long v8_148), (10, .long v10_148), (16, .long v16_148), (22, .long v22_148), (24, .long v24_148)] → W p l e R s m args below meth c H locs 0 0 Q (F0 m 148 ls []) := by
    intro v6_148 v8_148 v10_148 v16_148 v22_148 v24_148 μ_148 hok H locs ls hM hl
    refine lv_lload hx hb dL_cross_148 (lv_at hl 5 rfl) ?_
    refine lv_lconst (v := 0) hx hb dL_cross_150 (by decide) ?_
    refine W.lcmp hx hb dL_cross_151 ?_
    refine lv_if_ge (tgt := 170) hx hb dL_cross_152 (by decide) (fun c_12 => ?_) (fun c_12 => ?_)
    · have hok := oif_pos hok c_12
      exact J_m170 v6_148 v8_148 v10_148 v16_148 v22_148 v24_148 μ_148 hok _ _ ls hM (lv_sub hl [0, 1, 2, 3, 4, 5, 6, 7] rfl)
    · have hok := oif_neg hok c_12
      refine lv_lload hx hb dL_cross_155 (lv_at hl 5 rfl) ?_
      refine lv_lneg hx hb dL_cross_157 ?_
      refine lv_lstore (lv' := [(16, .long (-v16_148)), (0, .ref q0), (5, .ref q5), (6, .int v6_148), (8, .long v8_148), (10, .long v10_148), (22, .long v22_148), (24, .long v24_148)]) hx hb dL_cross_158 hl (by decide) rfl (fun ls hl => ?_)
      refine lv_lload hx hb dL_cross_160 (lv_at hl 6 rfl) ?_
      refine lv_lneg hx hb dL_cross_162 ?_
      refine lv_lstore (lv' := [(22, .long (-v22_148)), (16, .long (-v16_148)), (0, .ref q0), (5, .ref q5), (6, .int v6_148), (8, .long v8_148), (10, .long v10_148), (24, .long v24_148)]) hx hb dL_cross_163 hl (by decide) rfl (fun ls hl => ?_)
      refine lv_lload hx hb dL_cross_165 (lv_at hl 7 rfl) ?_
      refine lv_lneg hx hb dL_cross_167 ?_
      refine lv_lstore (lv' := [(24, .long (-v24_148)), (22, .long (-v22_148)), (16, .long (-v16_148)), (0, .ref q0), (5, .ref q5), (6, .int v6_148), (8, .long v8_148), (10, .long v10_148)]) hx hb dL_cross_168 hl (by decide) rfl (fun ls hl => ?_)
      exact J_m170 v6_148 v8_148 v10_148 (-v16_148) (-v22_148) (-v24_148) μ_148 hok _ _ ls hM (lv_sub hl [3, 4, 5, 6, 7, 2, 1, 0] rfl)
  have J_m122 : ∀  (v6_122 : Int32) (v8_122 : Int64) (v10_122 : Int64) (v12_122 : Int64) (v14_122 : Int64) (v16_122 : Int64) (v18_122 : Int64) (v20_122 : Int64) (μ_122 : MS), w_L_cross_m122 p2 p3 p4 K v6_122 v8_122 v10_122 v12_122 v14_122 v16_122 v18_122 v20_122 μ_122 → ∀ (H : Heap) (locs : List Loc) (ls : Array Slot), HL D a 0 0 A [(q0, .inl (a 0, 16, .inl (μ_122.1 0))), (q1, .inl (a 0, 64, .inl (μ_122.1 1))), (q5, .inl (a 1, 4, .inr (.inl (μ_122.2 5))))] none s.heap H locs → lv_has ls 26 [(0, .ref q0), (5, .ref q5), (6, .int v6_122), (8, .long v8_122), (10, .long v10_122), (12, .long v12_122), (14, .long v14_122), (16, .long v16_122), (18, .long v18_122), (20, .long v20_122)] → W p l e R s m args below meth c H locs 0 0 Q (F0 m 122 ls []) := by
    intro v6_122 v8_122 v10_122 v12_122 v14_122 v16_122 v18_122 v20_122 μ_122 hok H locs ls hM hl
    refine lv_lload hx hb dL_cross_122 (lv_at hl 8 rfl) ?_
    refine lv_lload hx hb dL_cross_124 (lv_at hl 6 rfl) ?_
    refine lv_lmul hx hb dL_cross_126 ?_
    refine lv_lload hx hb dL_cross_127 (lv_at hl 9 rfl) ?_
    refine lv_lload hx hb dL_cross_129 (lv_at hl 5 rfl) ?_
    refine lv_lmul hx hb dL_cross_131 ?_
    refine lv_lsub hx hb dL_cross_132 ?_
    refine lv_lstore (lv' := [(22, .long ((v18_122 * v14_122) - (v20_122 * v12_122))), (0, .ref q0), (5, .ref q5), (6, .int v6_122), (8, .long v8_122), (10, .long v10_122), (12, .long v12_122), (14, .long v14_122), (16, .long v16_122), (18, .long v18_122), (20, .long v20_122)]) hx hb dL_cross_133 hl (by decide) rfl (fun ls hl => ?_)
    refine lv_lload hx hb dL_cross_135 (lv_at hl 9 rfl) ?_
    refine lv_lload hx hb dL_cross_137 (lv_at hl 5 rfl) ?_
    refine lv_lmul hx hb dL_cross_139 ?_
    refine lv_lload hx hb dL_cross_140 (lv_at hl 10 rfl) ?_
    refine lv_lload hx hb dL_cross_142 (lv_at hl 4 rfl) ?_
    refine lv_lmul hx hb dL_cross_144 ?_
    refine lv_lsub hx hb dL_cross_145 ?_
    refine lv_lstore (lv' := [(24, .long ((v18_122 * v10_122) - (v20_122 * v8_122))), (22, .long ((v18_122 * v14_122) - (v20_122 * v12_122))), (0, .ref q0), (5, .ref q5), (6, .int v6_122), (8, .long v8_122), (10, .long v10_122), (12, .long v12_122), (14, .long v14_122), (16, .long v16_122), (18, .long v18_122), (20, .long v20_122)]) hx hb dL_cross_146 hl (by decide) rfl (fun ls hl => ?_)
    exact J_m148 v6_122 v8_122 v10_122 v16_122 ((v18_122 * v14_122) - (v20_122 * v12_122)) ((v18_122 * v10_122) - (v20_122 * v8_122)) μ_122 hok _ _ ls hM (lv_sub hl [2, 3, 4, 5, 6, 9, 1, 0] rfl)
  have J_m106 : ∀  (v6_106 : Int32) (v7_106 : Int32) (v8_106 : Int64) (v10_106 : Int64) (v12_106 : Int64) (v14_106 : Int64) (v16_106 : Int64) (v18_106 : Int64) (μ_106 : MS), w_L_cross_m106 p2 p3 p4 K v6_106 v7_106 v8_106 v10_106 v12_106 v14_106 v16_106 v18_106 μ_106 → ∀ (H : Heap) (locs : List Loc) (ls : Array Slot), HL D a 0 0 A [(q0, .inl (a 0, 16, .inl (μ_106.1 0))), (q1, .inl (a 0, 64, .inl (μ_106.1 1))), (q5, .inl (a 1, 4, .inr (.inl (μ_106.2 5))))] none s.heap H locs → lv_has ls 26 [(0, .ref q0), (5, .ref q5), (6, .int v6_106), (7, .int v7_106), (8, .long v8_106), (10, .long v10_106), (12, .long v12_106), (14, .long v14_106), (16, .long v16_106), (18, .long v18_106)] → W p l e R s m args below meth c H locs 0 0 Q (F0 m 106 ls []) := by
    intro v6_106 v7_106 v8_106 v10_106 v12_106 v14_106 v16_106 v18_106 μ_106 hok H locs ls hM hl
    refine lv_aload_n hx hb dL_cross_106 rfl (lv_at hl 0 rfl) ?_
    refine lv_iload hx hb dL_cross_107 (lv_at hl 3 rfl) ?_
    refine lv_iconst (v := 1) hx hb dL_cross_109 (by decide) ?_
    refine lv_iadd hx hb dL_cross_110 ?_
    have ok_10 := And.left hok
    have hok := And.right hok
    refine la_I C hM 0 rfl ok_10 dL_cross_111 ?_
    refine lv_aload_n hx hb dL_cross_112 rfl (lv_at hl 0 rfl) ?_
    refine lv_iload hx hb dL_cross_113 (lv_at hl 2 rfl) ?_
    refine lv_iconst (v := 1) hx hb dL_cross_115 (by decide) ?_
    refine lv_iadd hx hb dL_cross_116 ?_
    have ok_11 := And.left hok
    have hok := And.right hok
    refine la_I C hM 0 rfl ok_11 dL_cross_117 ?_
    refine lv_isub hx hb dL_cross_118 ?_
    refine lv_i2l (v := (((mi μ_106 0 (ix (v7_106 + 1))) - (mi μ_106 0 (ix (v6_106 + 1)))).toInt64)) hx hb dL_cross_119 rfl ?_
    refine lv_lstore (lv' := [(20, .long (((mi μ_106 0 (ix (v7_106 + 1))) - (mi μ_106 0 (ix (v6_106 + 1)))).toInt64)), (0, .ref q0), (5, .ref q5), (6, .int v6_106), (7, .int v7_106), (8, .long v8_106), (10, .long v10_106), (12, .long v12_106), (14, .long v14_106), (16, .long v16_106), (18, .long v18_106)]) hx hb dL_cross_120 hl (by decide) rfl (fun ls hl => ?_)
    exact J_m122 v6_106 v8_106 v10_106 v12_106 v14_106 v16_106 v18_106 (((mi μ_106 0 (ix (v7_106 + 1))) - (mi μ_106 0 (ix (v6_106 + 1)))).toInt64) μ_106 hok _ _ ls hM (lv_sub hl [1, 2, 3, 5, 6, 7, 8, 9, 10, 0] rfl)
  have J_m72 : ∀  (v6_72 : Int32) (v7_72 : Int32) (v8_72 : Int64) (v10_72 : Int64) (v12_72 : Int64) (v14_72 : Int64) (μ_72 : MS), w_L_cross_m72 p2 p3 p4 K v6_72 v7_72 v8_72 v10_72 v12_72 v14_72 μ_72 → ∀ (H : Heap) (locs : List Loc) (ls : Array Slot), HL D a 0 0 A [(q0, .inl (a 0, 16, .inl (μ_72.1 0))), (q1, .inl (a 0, 64, .inl (μ_72.1 1))), (q5, .inl (a 1, 4, .inr (.inl (μ_72.2 5))))] none s.heap H locs → lv_has ls 26 [(0, .ref q0), (5, .ref q5), (6, .int v6_72), (7, .int v7_72), (8, .long v8_72), (10, .long v10_72), (12, .long v12_72), (14, .long v14_72)] → W p l e R s m args below meth c H locs 0 0 Q (F0 m 72 ls []) := by
    intro v6_72 v7_72 v8_72 v10_72 v12_72 v14_72 μ_72 hok H locs ls hM hl
    refine lv_lload hx hb dL_cross_72 (lv_at hl 4 rfl) ?_
    refine lv_lload hx hb dL_cross_74 (lv_at hl 7 rfl) ?_
    refine lv_lmul hx hb dL_cross_76 ?_
    refine lv_lload hx hb dL_cross_77 (lv_at hl 5 rfl) ?_
    refine lv_lload hx hb dL_cross_79 (lv_at hl 6 rfl) ?_
    refine lv_lmul hx hb dL_cross_81 ?_
    refine lv_lsub hx hb dL_cross_82 ?_
    refine lv_lstore (lv' := [(16, .long ((v8_72 * v14_72) - (v10_72 * v12_72))), (0, .ref q0), (5, .ref q5), (6, .int v6_72), (7, .int v7_72), (8, .long v8_72), (10, .long v10_72), (12, .long v12_72), (14, .long v14_72)]) hx hb dL_cross_83 hl (by decide) rfl (fun ls hl => ?_)
    refine lv_lload hx hb dL_cross_85 (lv_at hl 0 rfl) ?_
    refine lv_lconst (v := 0) hx hb dL_cross_87 (by decide) ?_
    refine W.lcmp hx hb dL_cross_88 ?_
    refine lv_if_ne (tgt := 94) hx hb dL_cross_89 (by decide) (fun c_7 => ?_) (fun c_7 => ?_)
    · have hok := oif_neg hok c_7
      refine lv_aload_n hx hb dL_cross_94 rfl (lv_at hl 1 rfl) ?_
      refine lv_iload hx hb dL_cross_95 (lv_at hl 4 rfl) ?_
      have ok_8 := And.left hok
      have hok := And.right hok
      refine la_I C hM 0 rfl ok_8 dL_cross_97 ?_
      refine lv_aload_n hx hb dL_cross_98 rfl (lv_at hl 1 rfl) ?_
      refine lv_iload hx hb dL_cross_99 (lv_at hl 3 rfl) ?_
      have ok_9 := And.left hok
      have hok := And.right hok
      refine la_I C hM 0 rfl ok_9 dL_cross_101 ?_
      refine lv_isub hx hb dL_cross_102 ?_
      refine lv_i2l (v := (((mi μ_72 0 (ix v7_72)) - (mi μ_72 0 (ix v6_72))).toInt64)) hx hb dL_cross_103 rfl ?_
      refine lv_lstore (lv' := [(18, .long (((mi μ_72 0 (ix v7_72)) - (mi μ_72 0 (ix v6_72))).toInt64)), (16, .long ((v8_72 * v14_72) - (v10_72 * v12_72))), (0, .ref q0), (5, .ref q5), (6, .int v6_72), (7, .int v7_72), (8, .long v8_72), (10, .long v10_72), (12, .long v12_72), (14, .long v14_72)]) hx hb dL_cross_104 hl (by decide) rfl (fun ls hl => ?_)
      exact J_m106 v6_72 v7_72 v8_72 v10_72 v12_72 v14_72 ((v8_72 * v14_72) - (v10_72 * v12_72)) (((mi μ_72 0 (ix v7_72)) - (mi μ_72 0 (ix v6_72))).toInt64) μ_72 hok _ _ ls hM (lv_sub hl [2, 3, 4, 5, 6, 7, 8, 9, 1, 0] rfl)
    · have hok := oif_pos hok c_7
      refine lv_iconst (v := 0) hx hb dL_cross_92 (by decide) ?_
      exact ret _ _ _ _ _ hM.2.2.1 dL_cross_93 (by unfold zb; decide) ⟨_, _, hok, rfl, hM.1 2 _ rfl⟩
  have J_m46 : ∀  (v6_46 : Int32) (v7_46 : Int32) (v8_46 : Int64) (v10_46 : Int64) (μ_46 : MS), w_L_cross_m46 p2 p3 p4 K v6_46 v7_46 v8_46 v10_46 μ_46 → ∀ (H : Heap) (locs : List Loc) (ls : Array Slot), HL D a 0 0 A [(q0, .inl (a 0, 16, .inl (μ_46.1 0))), (q1, .inl (a 0, 64, .inl (μ_46.1 1))), (q5, .inl (a 1, 4, .inr (.inl (μ_46.2 5))))] none s.heap H locs → lv_has ls 26 [(0, .ref q0), (1, .ref q1), (3, .int p3), (4, .int p4), (5, .ref q5), (6, .int v6_46), (7, .int v7_46), (8, .long v8_46), (10, .long v10_46)] → W p l e R s m args below meth c H locs 0 0 Q (F0 m 46 ls []) := by
    intro v6_46 v7_46 v8_46 v10_46 μ_46 hok H locs ls hM hl
    refine lv_aload_n hx hb dL_cross_46 rfl (lv_at hl 1 rfl) ?_
    refine lv_bipush (v := 9) hx hb dL_cross_47 (by decide) ?_
    refine lv_iload_n hx hb dL_cross_49 rfl (lv_at hl 2 rfl) ?_
    refine lv_imul hx hb dL_cross_50 ?_
    refine lv_iload hx hb dL_cross_51 (lv_at hl 3 rfl) ?_
    refine lv_iadd hx hb dL_cross_53 ?_
    have ok_5 := And.left hok
    have hok := And.right hok
    refine la_I C hM 1 rfl ok_5 dL_cross_54 ?_
    refine lv_i2l (v := ((mi μ_46 1 (ix ((9 * p3) + p4))).toInt64)) hx hb dL_cross_55 rfl ?_
    refine lv_lstore (lv' := [(12, .long ((mi μ_46 1 (ix ((9 * p3) + p4))).toInt64)), (0, .ref q0), (1, .ref q1), (3, .int p3), (4, .int p4), (5, .ref q5), (6, .int v6_46), (7, .int v7_46), (8, .long v8_46), (10, .long v10_46)]) hx hb dL_cross_56 hl (by decide) rfl (fun ls hl => ?_)
    refine lv_aload_n hx hb dL_cross_58 rfl (lv_at hl 2 rfl) ?_
    refine lv_bipush (v := 9) hx hb dL_cross_59 (by decide) ?_
    refine lv_iload_n hx hb dL_cross_61 rfl (lv_at hl 3 rfl) ?_
    refine lv_imul hx hb dL_cross_62 ?_
    refine lv_iload hx hb dL_cross_63 (lv_at hl 4 rfl) ?_
    refine lv_iadd hx hb dL_cross_65 ?_
    refine lv_iconst (v := 1) hx hb dL_cross_66 (by decide) ?_
    refine lv_iadd hx hb dL_cross_67 ?_
    have ok_6 := And.left hok
    have hok := And.right hok
    refine la_I C hM 1 rfl ok_6 dL_cross_68 ?_
    refine lv_i2l (v := ((mi μ_46 1 (ix (((9 * p3) + p4) + 1))).toInt64)) hx hb dL_cross_69 rfl ?_
    refine lv_lstore (lv' := [(14, .long ((mi μ_46 1 (ix (((9 * p3) + p4) + 1))).toInt64)), (12, .long ((mi μ_46 1 (ix ((9 * p3) + p4))).toInt64)), (0, .ref q0), (1, .ref q1), (3, .int p3), (4, .int p4), (5, .ref q5), (6, .int v6_46), (7, .int v7_46), (8, .long v8_46), (10, .long v10_46)]) hx hb dL_cross_70 hl (by decide) rfl (fun ls hl => ?_)
    exact J_m72 v6_46 v7_46 v8_46 v10_46 ((mi μ_46 1 (ix ((9 * p3) + p4))).toInt64) ((mi μ_46 1 (ix (((9 * p3) + p4) + 1))).toInt64) μ_46 hok _ _ ls hM (lv_sub hl [2, 6, 7, 8, 9, 10, 1, 0] rfl)
  refine lv_iconst (v := 3) hx hb dL_cross_0 (by decide) ?_
  refine lv_aload_n hx hb dL_cross_1 rfl (lv_at hl 1 rfl) ?_
  refine lv_bipush (v := 9) hx hb dL_cross_2 (by decide) ?_
  refine lv_iload_n hx hb dL_cross_4 rfl (lv_at hl 2 rfl) ?_
  refine lv_imul hx hb dL_cross_5 ?_
  have ok_1 := And.left hok
  have hok := And.right hok
  refine la_I C hM 1 rfl ok_1 dL_cross_6 ?_
  refine lv_imul hx hb dL_cross_7 ?_
  refine lv_istore (lv' := [(6, .int (3 * (mi μ 1 (ix (9 * p2))))), (0, .ref q0), (1, .ref q1), (2, .int p2), (3, .int p3), (4, .int p4), (5, .ref q5)]) hx hb dL_cross_8 hl (by decide) rfl (fun ls hl => ?_)
  refine lv_iconst (v := 3) hx hb dL_cross_10 (by decide) ?_
  refine lv_aload_n hx hb dL_cross_11 rfl (lv_at hl 2 rfl) ?_
  refine lv_bipush (v := 9) hx hb dL_cross_12 (by decide) ?_
  refine lv_iload_n hx hb dL_cross_14 rfl (lv_at hl 4 rfl) ?_
  refine lv_imul hx hb dL_cross_15 ?_
  have ok_2 := And.left hok
  have hok := And.right hok
  refine la_I C hM 1 rfl ok_2 dL_cross_16 ?_
  refine lv_imul hx hb dL_cross_17 ?_
  refine lv_istore (lv' := [(7, .int (3 * (mi μ 1 (ix (9 * p3))))), (6, .int (3 * (mi μ 1 (ix (9 * p2))))), (0, .ref q0), (1, .ref q1), (2, .int p2), (3, .int p3), (4, .int p4), (5, .ref q5)]) hx hb dL_cross_18 hl (by decide) rfl (fun ls hl => ?_)
  refine lv_aload_n hx hb dL_cross_20 rfl (lv_at hl 3 rfl) ?_
  refine lv_bipush (v := 9) hx hb dL_cross_21 (by decide) ?_
  refine lv_iload_n hx hb dL_cross_23 rfl (lv_at hl 4 rfl) ?_
  refine lv_imul hx hb dL_cross_24 ?_
  refine lv_iload hx hb dL_cross_25 (lv_at hl 6 rfl) ?_
  refine lv_iadd hx hb dL_cross_27 ?_
  have ok_3 := And.left hok
  have hok := And.right hok
  refine la_I C hM 1 rfl ok_3 dL_cross_28 ?_
  refine lv_i2l (v := ((mi μ 1 (ix ((9 * p2) + p4))).toInt64)) hx hb dL_cross_29 rfl ?_
  refine lv_lstore (lv' := [(8, .long ((mi μ 1 (ix ((9 * p2) + p4))).toInt64)), (7, .int (3 * (mi μ 1 (ix (9 * p3))))), (6, .int (3 * (mi μ 1 (ix (9 * p2))))), (0, .ref q0), (1, .ref q1), (2, .int p2), (3, .int p3), (4, .int p4), (5, .ref q5)]) hx hb dL_cross_30 hl (by decide) rfl (fun ls hl => ?_)
  refine lv_aload_n hx hb dL_cross_32 rfl (lv_at hl 4 rfl) ?_
  refine lv_bipush (v := 9) hx hb dL_cross_33 (by decide) ?_
  refine lv_iload_n hx hb dL_cross_35 rfl (lv_at hl 5 rfl) ?_
  refine lv_imul hx hb dL_cross_36 ?_
  refine lv_iload hx hb dL_cross_37 (lv_at hl 7 rfl) ?_
  refine lv_iadd hx hb dL_cross_39 ?_
  refine lv_iconst (v := 1) hx hb dL_cross_40 (by decide) ?_
  refine lv_iadd hx hb dL_cross_41 ?_
  have ok_4 := And.left hok
  have hok := And.right hok
  refine la_I C hM 1 rfl ok_4 dL_cross_42 ?_
  refine lv_i2l (v := ((mi μ 1 (ix (((9 * p2) + p4) + 1))).toInt64)) hx hb dL_cross_43 rfl ?_
  refine lv_lstore (lv' := [(10, .long ((mi μ 1 (ix (((9 * p2) + p4) + 1))).toInt64)), (8, .long ((mi μ 1 (ix ((9 * p2) + p4))).toInt64)), (7, .int (3 * (mi μ 1 (ix (9 * p3))))), (6, .int (3 * (mi μ 1 (ix (9 * p2))))), (0, .ref q0), (1, .ref q1), (2, .int p2), (3, .int p3), (4, .int p4), (5, .ref q5)]) hx hb dL_cross_44 hl (by decide) rfl (fun ls hl => ?_)
  exact J_m46 (3 * (mi μ 1 (ix (9 * p2)))) (3 * (mi μ 1 (ix (9 * p3)))) ((mi μ 1 (ix ((9 * p2) + p4))).toInt64) ((mi μ 1 (ix (((9 * p2) + p4) + 1))).toInt64) μ hok _ _ ls hM (lv_sub hl [4, 5, 7, 8, 9, 3, 2, 1, 0] rfl)
def w_L_joins_m138 (p2 : Int32) (p3 : Int32) (K : Int32 → Prop) (v4_138 : Int32) (μ_138 : MS) : Prop := (oif (6 ≤ v4_138) (K 0) (oif (v4_138 ≤ (-6)) (K 0) (wcal2 (w_L_cross (mZJ μ_138 5) p2 p3 5) (fun v9_29 gq_28 => (oif (v9_29 = 0) (K 0) (wcal2 (w_L_cross (mQ (mZJ μ_138 5) 5 gq_28) p2 p3 7) (fun v9_36 gq_35 => (oif (v9_36 = 0) (K 0) (K 1)))))))))
def w_L_joins (μ : MS) (p2 : Int32) (p3 : Int32) (K : Int32 → Prop) : Prop := (oif (p2 = p3) (K 0) (vp_in (9 * p2) 64 ∧ (vp_in (9 * p3) 64 ∧ (oif ((mi μ 1 (ix (9 * p2))) = (mi μ 1 (ix (9 * p3)))) (K 0) (vp_in ((9 * p2) + 1) 64 ∧ (vp_in ((9 * p3) + 1) 64 ∧ (oif ((mi μ 1 (ix ((9 * p2) + 1))) = (mi μ 1 (ix ((9 * p3) + 1)))) (vp_in ((9 * p2) + 3) 64 ∧ (oif (30 < (mi μ 1 (ix ((9 * p2) + 3)))) (K 0) (vp_in ((9 * p3) + 3) 64 ∧ (oif (30 < (mi μ 1 (ix ((9 * p3) + 3)))) (K 0) (vp_in ((9 * p2) + 4) 64 ∧ (oif ((mi μ 1 (ix ((9 * p2) + 4))) < 50) (K 0) (vp_in ((9 * p3) + 4) 64 ∧ (oif (50 ≤ (mi μ 1 (ix ((9 * p3) + 4)))) (vp_in ((9 * p2) + 2) 64 ∧ (vp_in (9 * p2) 64 ∧ (vp_in ((3 * (mi μ 1 (ix (9 * p2)))) + 2) 16 ∧ (vp_in ((9 * p3) + 2) 64 ∧ (vp_in (9 * p3) 64 ∧ (vp_in ((3 * (mi μ 1 (ix (9 * p3)))) + 2) 16 ∧ (w_L_joins_m138 p2 p3 K ((((mi μ 1 (ix ((9 * p2) + 2))) - (mi μ 0 (ix ((3 * (mi μ 1 (ix (9 * p2)))) + 2)))) - (mi μ 1 (ix ((9 * p3) + 2)))) + (mi μ 0 (ix ((3 * (mi μ 1 (ix (9 * p3)))) + 2)))) μ))))))) (K 0))))))))) (K 0))))))))
set_option maxHeartbeats 4000000 in
set_option maxRecDepth 100000 in
theorem k_L_joins (l : Launch) (D : va_G) (a : Nat → ClassId) (A : Nat → Prop) (q0 : Nat) (q1 : Nat) (μ : MS) (p2 : Int32) (p3 : Int32) (K : Int32 → Prop)  (hok : w_L_joins μ p2 p3 K) : KG l yL_joins cL_joins 6 (some .boolean) 2 70 1 4 [.ref q0, .ref q1, .int p2, .int p3] A (BLa D a A [(q0, .inl (a 0, 16, .inl (μ.1 0))), (q1, .inl (a 0, 64, .inl (μ.1 1)))]) (fun _ v _ => ∃ v9, K v9 ∧ v = some (.int v9)) := by
  refine goGz (D := D) (a := a) (by decide +kernel) bla_good (Nat.le_of_ble_eq_true rfl) ?_
  intro p e s m args below meth c ls R Q hRf hRl hRc hRs C hB hl ret
  obtain ⟨-, hAf, hP, hD⟩ := hB
  have hM : HL D a 0 0 A [(q0, .inl (a 0, 16, .inl (μ.1 0))), (q1, .inl (a 0, 64, .inl (μ.1 1)))] none s.heap s.heap [] := ⟨hP, hD, va_S.rf, trivial⟩
  have hl : lv_has ls 6 [(0, .ref q0), (1, .ref q1), (2, .int p2), (3, .int p3)] := hl
  have hx := C.1.1
  have hb := C.1.2.1
  have hts := C.1.2.2.2.2
  have hown := C.1.2.2.2.1
  have J_m138 : ∀  (v4_138 : Int32) (μ_138 : MS), w_L_joins_m138 p2 p3 K v4_138 μ_138 → ∀ (H : Heap) (locs : List Loc) (ls : Array Slot), HL D a 0 0 A [(q0, .inl (a 0, 16, .inl (μ_138.1 0))), (q1, .inl (a 0, 64, .inl (μ_138.1 1)))] none s.heap H locs → lv_has ls 6 [(0, .ref q0), (1, .ref q1), (2, .int p2), (3, .int p3), (4, .int v4_138)] → W p l e R s m args below meth c H locs 0 0 Q (F0 m 138 ls []) := by
    intro v4_138 μ_138 hok H locs ls hM hl
    refine lv_iconst (v := nI 4) hx hb dL_joins_138 (by decide) ?_
    refine ln_J C hM hAf (N := 4) (by omega) (by omega) (by omega) dL_joins_139 (fun q5 H locs hA5 hM => ?_)
    have hM : HL D a 0 0 A [(q0, .inl (a 0, 16, .inl ((mZJ μ_138 5).1 0))), (q1, .inl (a 0, 64, .inl ((mZJ μ_138 5).1 1))), (q5, .inl (a 1, 4, .inr (.inl ((mZJ μ_138 5).2 5))))] none s.heap H locs := hM
    refine lv_astore (lv' := [(5, .ref q5), (0, .ref q0), (1, .ref q1), (2, .int p2), (3, .int p3), (4, .int v4_138)]) hx hb dL_joins_141 hl (by decide) rfl (fun ls hl => ?_)
    refine lv_iload hx hb dL_joins_143 (lv_at hl 5 rfl) ?_
    refine lv_bipush (v := 6) hx hb dL_joins_145 (by decide) ?_
    refine lv_icmp_ge (tgt := 188) hx hb dL_joins_147 (by decide) (fun c_22 => ?_) (fun c_22 => ?_)
    · have hok := oif_pos hok c_22
      refine lv_iconst (v := 0) hx hb dL_joins_188 (by decide) ?_
      refine W.widen (k := 1) (n := 4) (by omega) (by omega) ?_
      exact ret _ _ _ _ _ hM.2.2.1 dL_joins_189 (by unfold zb; decide) ⟨_, hok, rfl⟩
    · have hok := oif_neg hok c_22
      refine lv_iload hx hb dL_joins_150 (lv_at hl 5 rfl) ?_
      refine lv_bipush (v := (-6)) hx hb dL_joins_152 (by decide) ?_
      refine lv_icmp_le (tgt := 188) hx hb dL_joins_154 (by decide) (fun c_23 => ?_) (fun c_23 => ?_)
      · have hok := oif_pos hok c_23
        refine lv_iconst (v := 0) hx hb dL_joins_188 (by decide) ?_
        refine W.widen (k := 1) (n := 4) (by omega) (by omega) ?_
        exact ret _ _ _ _ _ hM.2.2.1 dL_joins_189 (by unfold zb; decide) ⟨_, hok, rfl⟩
      · have hok := oif_neg hok c_23
        refine lv_aload_n hx hb dL_joins_157 rfl (lv_at hl 1 rfl) ?_
        refine lv_aload_n hx hb dL_joins_158 rfl (lv_at hl 2 rfl) ?_
        refine lv_iload_n hx hb dL_joins_159 rfl (lv_at hl 3 rfl) ?_
        refine lv_iload_n hx hb dL_joins_160 rfl (lv_at hl 4 rfl) ?_
        refine lv_iconst (v := 5) hx hb dL_joins_161 (by decide) ?_
        refine lv_aload hx hb dL_joins_162 (lv_at hl 0 rfl) ?_
        obtain ⟨S9_24, w9_25, g9_26⟩ := hok
        refine lc_1 (av := [.ref q0, .ref q1, .int p2, .int p3, .int 5, .ref q5]) C hM hAf [0, 1, 2] rfl rfl 2 rfl hA5 (fun A9 hA9 => k_L_cross l D a A9 q0 q1 q5 (mZJ μ_138 5) p2 p3 5 S9_24 hA9 w9_25) cw_L_18 (okR_of hRf hRl (Nat.le_of_ble_eq_true rfl) (Nat.le_of_ble_eq_true rfl)) rfl rfl hl.1 (Nat.le_of_ble_eq_true rfl) (by omega) (by omega) dL_joins_164 (fun H locs v9 hT9 hP9 => ?_)
        obtain ⟨v9_29, gq_28, hS_27, rfl, hT8⟩ := hP9
        have hM : HL D a 0 0 A [(q0, .inl (a 0, 16, .inl ((mQ (mZJ μ_138 5) 5 gq_28).1 0))), (q1, .inl (a 0, 64, .inl ((mQ (mZJ μ_138 5) 5 gq_28).1 1))), (q5, .inl (a 1, 4, .inr (.inl ((mQ (mZJ μ_138 5) 5 gq_28).2 5))))] none s.heap H locs := hT9 _ hT8
        have hok := g9_26 v9_29 gq_28 hS_27
        refine lv_if_eq (tgt := 188) hx hb dL_joins_167 (by decide) (fun c_30 => ?_) (fun c_30 => ?_)
        · have hok := oif_pos hok c_30
          refine lv_iconst (v := 0) hx hb dL_joins_188 (by decide) ?_
          refine W.widen (k := 1) (n := 4) (by omega) (by omega) ?_
          exact ret _ _ _ _ _ hM.2.2.1 dL_joins_189 (by unfold zb; decide) ⟨_, hok, rfl⟩
        · have hok := oif_neg hok c_30
          refine lv_aload_n hx hb dL_joins_170 rfl (lv_at hl 1 rfl) ?_
          refine lv_aload_n hx hb dL_joins_171 rfl (lv_at hl 2 rfl) ?_
          refine lv_iload_n hx hb dL_joins_172 rfl (lv_at hl 3 rfl) ?_
          refine lv_iload_n hx hb dL_joins_173 rfl (lv_at hl 4 rfl) ?_
          refine lv_bipush (v := 7) hx hb dL_joins_174 (by decide) ?_
          refine lv_aload hx hb dL_joins_176 (lv_at hl 0 rfl) ?_
          obtain ⟨S9_31, w9_32, g9_33⟩ := hok
          refine lc_1 (av := [.ref q0, .ref q1, .int p2, .int p3, .int 7, .ref q5]) C hM hAf [0, 1, 2] rfl rfl 2 rfl hA5 (fun A9 hA9 => k_L_cross l D a A9 q0 q1 q5 (mQ (mZJ μ_138 5) 5 gq_28) p2 p3 7 S9_31 hA9 w9_32) cw_L_18 (okR_of hRf hRl (Nat.le_of_ble_eq_true rfl) (Nat.le_of_ble_eq_true rfl)) rfl rfl hl.1 (Nat.le_of_ble_eq_true rfl) (by omega) (by omega) dL_joins_178 (fun H locs v9 hT9 hP9 => ?_)
          obtain ⟨v9_36, gq_35, hS_34, rfl, hT8⟩ := hP9
          have hM : HL D a 0 0 A [(q0, .inl (a 0, 16, .inl ((mQ (mQ (mZJ μ_138 5) 5 gq_28) 5 gq_35).1 0))), (q1, .inl (a 0, 64, .inl ((mQ (mQ (mZJ μ_138 5) 5 gq_28) 5 gq_35).1 1))), (q5, .inl (a 1, 4, .inr (.inl ((mQ (mQ (mZJ μ_138 5) 5 gq_28) 5 gq_35).2 5))))] none s.heap H locs := hT9 _ hT8
          have hok := g9_33 v9_36 gq_35 hS_34
          refine lv_if_eq (tgt := 188) hx hb dL_joins_181 (by decide) (fun c_37 => ?_) (fun c_37 => ?_)
          · have hok := oif_pos hok c_37
            refine lv_iconst (v := 0) hx hb dL_joins_188 (by decide) ?_
            refine W.widen (k := 1) (n := 4) (by omega) (by omega) ?_
            exact ret _ _ _ _ _ hM.2.2.1 dL_joins_189 (by unfold zb; decide) ⟨_, hok, rfl⟩
          · have hok := oif_neg hok c_37
            refine lv_iconst (v := 1) hx hb dL_joins_184 (by decide) ?_
            refine lv_goto (tgt := 189) hx hb dL_joins_185 (by decide) ?_
            refine W.widen (k := 1) (n := 4) (by omega) (by omega) ?_
            exact ret _ _ _ _ _ hM.2.2.1 dL_joins_189 (by unfold zb; decide) ⟨_, hok, rfl⟩
  refine lv_iload_n hx hb dL_joins_0 rfl (lv_at hl 2 rfl) ?_
  refine lv_iload_n hx hb dL_joins_1 rfl (lv_at hl 3 rfl) ?_
  refine lv_icmp_eq (tgt := 91) hx hb dL_joins_2 (by decide) (fun c_1 => ?_) (fun c_1 => ?_)
  · have hok := oif_pos hok c_1
    refine lv_iconst (v := 0) hx hb dL_joins_91 (by decide) ?_
    refine W.widen (k := 1) (n := 4) (by omega) (by omega) ?_
    exact ret _ _ _ _ _ hM.2.2.1 dL_joins_92 (by unfold zb; decide) ⟨_, hok, rfl⟩
  · have hok := oif_neg hok c_1
    refine lv_aload_n hx hb dL_joins_5 rfl (lv_at hl 1 rfl) ?_
    refine lv_bipush (v := 9) hx hb dL_joins_6 (by decide) ?_
    refine lv_iload_n hx hb dL_joins_8 rfl (lv_at hl 2 rfl) ?_
    refine lv_imul hx hb dL_joins_9 ?_
    have ok_2 := And.left hok
    have hok := And.right hok
    refine la_I C hM 1 rfl ok_2 dL_joins_10 ?_
    refine lv_aload_n hx hb dL_joins_11 rfl (lv_at hl 1 rfl) ?_
    refine lv_bipush (v := 9) hx hb dL_joins_12 (by decide) ?_
    refine lv_iload_n hx hb dL_joins_14 rfl (lv_at hl 3 rfl) ?_
    refine lv_imul hx hb dL_joins_15 ?_
    have ok_3 := And.left hok
    have hok := And.right hok
    refine la_I C hM 1 rfl ok_3 dL_joins_16 ?_
    refine lv_icmp_eq (tgt := 91) hx hb dL_joins_17 (by decide) (fun c_4 => ?_) (fun c_4 => ?_)
    · have hok := oif_pos hok c_4
      refine lv_iconst (v := 0) hx hb dL_joins_91 (by decide) ?_
      refine W.widen (k := 1) (n := 4) (by omega) (by omega) ?_
      exact ret _ _ _ _ _ hM.2.2.1 dL_joins_92 (by unfold zb; decide) ⟨_, hok, rfl⟩
    · have hok := oif_neg hok c_4
      refine lv_aload_n hx hb dL_joins_20 rfl (lv_at hl 1 rfl) ?_
      refine lv_bipush (v := 9) hx hb dL_joins_21 (by decide) ?_
      refine lv_iload_n hx hb dL_joins_23 rfl (lv_at hl 2 rfl) ?_
      refine lv_imul hx hb dL_joins_24 ?_
      refine lv_iconst (v := 1) hx hb dL_joins_25 (by decide) ?_
      refine lv_iadd hx hb dL_joins_26 ?_
      have ok_5 := And.left hok
      have hok := And.right hok
      refine la_I C hM 1 rfl ok_5 dL_joins_27 ?_
      refine lv_aload_n hx hb dL_joins_28 rfl (lv_at hl 1 rfl) ?_
      refine lv_bipush (v := 9) hx hb dL_joins_29 (by decide) ?_
      refine lv_iload_n hx hb dL_joins_31 rfl (lv_at hl 3 rfl) ?_
      refine lv_imul hx hb dL_joins_32 ?_
      refine lv_iconst (v := 1) hx hb dL_joins_33 (by decide) ?_
      refine lv_iadd hx hb dL_joins_34 ?_
      have ok_6 := And.left hok
      have hok := And.right hok
      refine la_I C hM 1 rfl ok_6 dL_joins_35 ?_
      refine lv_icmp_ne (tgt := 91) hx hb dL_joins_36 (by decide) (fun c_7 => ?_) (fun c_7 => ?_)
      · have hok := oif_neg hok c_7
        refine lv_iconst (v := 0) hx hb dL_joins_91 (by decide) ?_
        refine W.widen (k := 1) (n := 4) (by omega) (by omega) ?_
        exact ret _ _ _ _ _ hM.2.2.1 dL_joins_92 (by unfold zb; decide) ⟨_, hok, rfl⟩
      · have hok := oif_pos hok c_7
        refine lv_aload_n hx hb dL_joins_39 rfl (lv_at hl 1 rfl) ?_
        refine lv_bipush (v := 9) hx hb dL_joins_40 (by decide) ?_
        refine lv_iload_n hx hb dL_joins_42 rfl (lv_at hl 2 rfl) ?_
        refine lv_imul hx hb dL_joins_43 ?_
        refine lv_iconst (v := 3) hx hb dL_joins_44 (by decide) ?_
        refine lv_iadd hx hb dL_joins_45 ?_
        have ok_8 := And.left hok
        have hok := And.right hok
        refine la_I C hM 1 rfl ok_8 dL_joins_46 ?_
        refine lv_bipush (v := 30) hx hb dL_joins_47 (by decide) ?_
        refine lv_icmp_gt (tgt := 91) hx hb dL_joins_49 (by decide) (fun c_9 => ?_) (fun c_9 => ?_)
        · have hok := oif_pos hok c_9
          refine lv_iconst (v := 0) hx hb dL_joins_91 (by decide) ?_
          refine W.widen (k := 1) (n := 4) (by omega) (by omega) ?_
          exact ret _ _ _ _ _ hM.2.2.1 dL_joins_92 (by unfold zb; decide) ⟨_, hok, rfl⟩
        · have hok := oif_neg hok c_9
          refine lv_aload_n hx hb dL_joins_52 rfl (lv_at hl 1 rfl) ?_
          refine lv_bipush (v := 9) hx hb dL_joins_53 (by decide) ?_
          refine lv_iload_n hx hb dL_joins_55 rfl (lv_at hl 3 rfl) ?_
          refine lv_imul hx hb dL_joins_56 ?_
          refine lv_iconst (v := 3) hx hb dL_joins_57 (by decide) ?_
          refine lv_iadd hx hb dL_joins_58 ?_
          have ok_10 := And.left hok
          have hok := And.right hok
          refine la_I C hM 1 rfl ok_10 dL_joins_59 ?_
          refine lv_bipush (v := 30) hx hb dL_joins_60 (by decide) ?_
          refine lv_icmp_gt (tgt := 91) hx hb dL_joins_62 (by decide) (fun c_11 => ?_) (fun c_11 => ?_)
          · have hok := oif_pos hok c_11
            refine lv_iconst (v := 0) hx hb dL_joins_91 (by decide) ?_
            refine W.widen (k := 1) (n := 4) (by omega) (by omega) ?_
            exact ret _ _ _ _ _ hM.2.2.1 dL_joins_92 (by unfold zb; decide) ⟨_, hok, rfl⟩
          · have hok := oif_neg hok c_11
            refine lv_aload_n hx hb dL_joins_65 rfl (lv_at hl 1 rfl) ?_
            refine lv_bipush (v := 9) hx hb dL_joins_66 (by decide) ?_
            refine lv_iload_n hx hb dL_joins_68 rfl (lv_at hl 2 rfl) ?_
            refine lv_imul hx hb dL_joins_69 ?_
            refine lv_iconst (v := 4) hx hb dL_joins_70 (by decide) ?_
            refine lv_iadd hx hb dL_joins_71 ?_
            have ok_12 := And.left hok
            have hok := And.right hok
            refine la_I C hM 1 rfl ok_12 dL_joins_72 ?_
            refine lv_bipush (v := 50) hx hb dL_joins_73 (by decide) ?_
            refine lv_icmp_lt (tgt := 91) hx hb dL_joins_75 (by decide) (fun c_13 => ?_) (fun c_13 => ?_)
            · have hok := oif_pos hok c_13
              refine lv_iconst (v := 0) hx hb dL_joins_91 (by decide) ?_
              refine W.widen (k := 1) (n := 4) (by omega) (by omega) ?_
              exact ret _ _ _ _ _ hM.2.2.1 dL_joins_92 (by unfold zb; decide) ⟨_, hok, rfl⟩
            · have hok := oif_neg hok c_13
              refine lv_aload_n hx hb dL_joins_78 rfl (lv_at hl 1 rfl) ?_
              refine lv_bipush (v := 9) hx hb dL_joins_79 (by decide) ?_
              refine lv_iload_n hx hb dL_joins_81 rfl (lv_at hl 3 rfl) ?_
              refine lv_imul hx hb dL_joins_82 ?_
              refine lv_iconst (v := 4) hx hb dL_joins_83 (by decide) ?_
              refine lv_iadd hx hb dL_joins_84 ?_
              have ok_14 := And.left hok
              have hok := And.right hok
              refine la_I C hM 1 rfl ok_14 dL_joins_85 ?_
              refine lv_bipush (v := 50) hx hb dL_joins_86 (by decide) ?_
              refine lv_icmp_ge (tgt := 93) hx hb dL_joins_88 (by decide) (fun c_15 => ?_) (fun c_15 => ?_)
              · have hok := oif_pos hok c_15
                refine lv_aload_n hx hb dL_joins_93 rfl (lv_at hl 1 rfl) ?_
                refine lv_bipush (v := 9) hx hb dL_joins_94 (by decide) ?_
                refine lv_iload_n hx hb dL_joins_96 rfl (lv_at hl 2 rfl) ?_
                refine lv_imul hx hb dL_joins_97 ?_
                refine lv_iconst (v := 2) hx hb dL_joins_98 (by decide) ?_
                refine lv_iadd hx hb dL_joins_99 ?_
                have ok_16 := And.left hok
                have hok := And.right hok
                refine la_I C hM 1 rfl ok_16 dL_joins_100 ?_
                refine lv_aload_n hx hb dL_joins_101 rfl (lv_at hl 0 rfl) ?_
                refine lv_iconst (v := 3) hx hb dL_joins_102 (by decide) ?_
                refine lv_aload_n hx hb dL_joins_103 rfl (lv_at hl 1 rfl) ?_
                refine lv_bipush (v := 9) hx hb dL_joins_104 (by decide) ?_
                refine lv_iload_n hx hb dL_joins_106 rfl (lv_at hl 2 rfl) ?_
                refine lv_imul hx hb dL_joins_107 ?_
                have ok_17 := And.left hok
                have hok := And.right hok
                refine la_I C hM 1 rfl ok_17 dL_joins_108 ?_
                refine lv_imul hx hb dL_joins_109 ?_
                refine lv_iconst (v := 2) hx hb dL_joins_110 (by decide) ?_
                refine lv_iadd hx hb dL_joins_111 ?_
                have ok_18 := And.left hok
                have hok := And.right hok
                refine la_I C hM 0 rfl ok_18 dL_joins_112 ?_
                refine lv_isub hx hb dL_joins_113 ?_
                refine lv_aload_n hx hb dL_joins_114 rfl (lv_at hl 1 rfl) ?_
                refine lv_bipush (v := 9) hx hb dL_joins_115 (by decide) ?_
                refine lv_iload_n hx hb dL_joins_117 rfl (lv_at hl 3 rfl) ?_
                refine lv_imul hx hb dL_joins_118 ?_
                refine lv_iconst (v := 2) hx hb dL_joins_119 (by decide) ?_
                refine lv_iadd hx hb dL_joins_120 ?_
                have ok_19 := And.left hok
                have hok := And.right hok
                refine la_I C hM 1 rfl ok_19 dL_joins_121 ?_
                refine lv_isub hx hb dL_joins_122 ?_
                refine lv_aload_n hx hb dL_joins_123 rfl (lv_at hl 0 rfl) ?_
                refine lv_iconst (v := 3) hx hb dL_joins_124 (by decide) ?_
                refine lv_aload_n hx hb dL_joins_125 rfl (lv_at hl 1 rfl) ?_
                refine lv_bipush (v := 9) hx hb dL_joins_126 (by decide) ?_
                refine lv_iload_n hx hb dL_joins_128 rfl (lv_at hl 3 rfl) ?_
                refine lv_imul hx hb dL_joins_129 ?_
                have ok_20 := And.left hok
                have hok := And.right hok
                refine la_I C hM 1 rfl ok_20 dL_joins_130 ?_
                refine lv_imul hx hb dL_joins_131 ?_
                refine lv_iconst (v := 2) hx hb dL_joins_132 (by decide) ?_
                refine lv_iadd hx hb dL_joins_133 ?_
                have ok_21 := And.left hok
                have hok := And.right hok
                refine la_I C hM 0 rfl ok_21 dL_joins_134 ?_
                refine lv_iadd hx hb dL_joins_135 ?_
                refine lv_istore (lv' := [(4, .int ((((mi μ 1 (ix ((9 * p2) + 2))) - (mi μ 0 (ix ((3 * (mi μ 1 (ix (9 * p2)))) + 2)))) - (mi μ 1 (ix ((9 * p3) + 2)))) + (mi μ 0 (ix ((3 * (mi μ 1 (ix (9 * p3)))) + 2))))), (0, .ref q0), (1, .ref q1), (2, .int p2), (3, .int p3)]) hx hb dL_joins_136 hl (by decide) rfl (fun ls hl => ?_)
                refine W.widen (k := 0) (n := 0) (by omega) (by omega) ?_
                exact J_m138 ((((mi μ 1 (ix ((9 * p2) + 2))) - (mi μ 0 (ix ((3 * (mi μ 1 (ix (9 * p2)))) + 2)))) - (mi μ 1 (ix ((9 * p3) + 2)))) + (mi μ 0 (ix ((3 * (mi μ 1 (ix (9 * p3)))) + 2)))) μ hok _ _ ls hM (lv_sub hl [1, 2, 3, 4, 0] rfl)
              · have hok := oif_neg hok c_15
                refine lv_iconst (v := 0) hx hb dL_joins_91 (by decide) ?_
                refine W.widen (k := 1) (n := 4) (by omega) (by omega) ?_
                exact ret _ _ _ _ _ hM.2.2.1 dL_joins_92 (by unfold zb; decide) ⟨_, hok, rfl⟩
