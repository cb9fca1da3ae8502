def w_L_group_m116 (p2 : Int32) (p3 : Int32) (K : Int32 → Prop) (v6_116 : Int32) (v7_116 : Int32) (μ_116 : MS) : Prop := (oif (v6_116 = 0) (K (-1)) (K v7_116))
def b_L_group_102 (p2 : Int32) (p3 : Int32) (K : Int32 → Prop) (v6_102 : Int32) (μ_102 : MS) (w7_102 : Int32) (KC : Int32 → Prop) (KE : Int32 → Prop) : Prop := (vp_in w7_102 16 ∧ (oif ((mi μ_102 3 (ix w7_102)) = 0) (KC (w7_102 + 1)) (KE w7_102)))
def w_L_group_m102 (p2 : Int32) (p3 : Int32) (K : Int32 → Prop) (v6_102 : Int32) (v7_102 : Int32) (μ_102 : MS) : Prop := (winv 17 (fun (v : Int32) KC KE => b_L_group_102 p2 p3 K v6_102 μ_102 v KC KE) v7_102 (fun (v : Int32) => (w_L_group_m116 p2 p3 K v6_102 v μ_102)))
def w_L_group_m99 (p2 : Int32) (p3 : Int32) (K : Int32 → Prop) (v6_99 : Int32) (μ_99 : MS) : Prop := (w_L_group_m102 p2 p3 K v6_99 0 μ_99)
def w_L_group_l17_96 (p2 : Int32) (p3 : Int32) (K : Int32 → Prop) (w5_17 : Int32) (w6_17 : Int32) (μw_17 : MS) (KC : (Int32 × Int32 × MS) → Prop) (KE : (Int32 × Int32 × MS) → Prop) (v5_96 : Int32) (v6_96 : Int32) (μ_96 : MS) : Prop := (KC (v5_96, v6_96, μ_96))
def w_L_group_l28_90 (p2 : Int32) (p3 : Int32) (K : Int32 → Prop) (w5_17 : Int32) (w6_17 : Int32) (μw_17 : MS) (w5_28 : Int32) (w6_28 : Int32) (w7_28 : Int32) (μw_28 : MS) (KC : (Int32 × Int32 × Int32 × MS) → Prop) (KE : (Int32 × Int32 × Int32 × MS) → Prop) (v5_90 : Int32) (v6_90 : Int32) (v7_90 : Int32) (μ_90 : MS) : Prop := (KC (v5_90, v6_90, (v7_90 + 1), μ_90))
def w_L_group_l37_84 (p2 : Int32) (p3 : Int32) (K : Int32 → Prop) (w5_17 : Int32) (w6_17 : Int32) (μw_17 : MS) (w5_28 : Int32) (w6_28 : Int32) (w7_28 : Int32) (μw_28 : MS) (v7_37 : Int32) (w5_37 : Int32) (w6_37 : Int32) (w8_37 : Int32) (μw_37 : MS) (KC : (Int32 × Int32 × Int32 × MS) → Prop) (KE : (Int32 × Int32 × Int32 × MS) → Prop) (v5_84 : Int32) (v6_84 : Int32) (v8_84 : Int32) (μ_84 : MS) : Prop := (KC (v5_84, v6_84, (v8_84 + 1), μ_84))
def w_L_group_l37_78 (p2 : Int32) (p3 : Int32) (K : Int32 → Prop) (w5_17 : Int32) (w6_17 : Int32) (μw_17 : MS) (w5_28 : Int32) (w6_28 : Int32) (w7_28 : Int32) (μw_28 : MS) (v7_37 : Int32) (w5_37 : Int32) (w6_37 : Int32) (w8_37 : Int32) (μw_37 : MS) (KC : (Int32 × Int32 × Int32 × MS) → Prop) (KE : (Int32 × Int32 × Int32 × MS) → Prop) (v6_78 : Int32) (v8_78 : Int32) (μ_78 : MS) : Prop := (w_L_group_l37_84 p2 p3 K w5_17 w6_17 μw_17 w5_28 w6_28 w7_28 μw_28 v7_37 w5_37 w6_37 w8_37 μw_37 KC KE 1 (v6_78 + 1) v8_78 μ_78)
def b_L_group_37 (p2 : Int32) (p3 : Int32) (K : Int32 → Prop) (w5_17 : Int32) (w6_17 : Int32) (μw_17 : MS) (w5_28 : Int32) (w6_28 : Int32) (w7_28 : Int32) (μw_28 : MS) (v7_37 : Int32) (w5_37 : Int32) (w6_37 : Int32) (w8_37 : Int32) (μw_37 : MS) (KC : (Int32 × Int32 × Int32 × MS) → Prop) (KE : (Int32 × Int32 × Int32 × MS) → Prop) : Prop := (oif (p2 ≤ w8_37) (KE (w5_37, w6_37, w8_37, μw_37)) (vp_in v7_37 16 ∧ (oif ((mi μw_37 3 (ix v7_37)) = 1) (vp_in w8_37 16 ∧ (oif ((mi μw_37 3 (ix w8_37)) = 0) (wcal (w_L_joins μw_37 v7_37 w8_37) (fun v9_32 => (oif (v9_32 = 0) (w_L_group_l37_84 p2 p3 K w5_17 w6_17 μw_17 w5_28 w6_28 w7_28 μw_28 v7_37 w5_37 w6_37 w8_37 μw_37 KC KE w5_37 w6_37 w8_37 μw_37) (vp_in w8_37 16 ∧ (w_L_group_l37_78 p2 p3 K w5_17 w6_17 μw_17 w5_28 w6_28 w7_28 μw_28 v7_37 w5_37 w6_37 w8_37 μw_37 KC KE w6_37 w8_37 (mI μw_37 3 (ix w8_37) 1)))))) (w_L_group_l37_84 p2 p3 K w5_17 w6_17 μw_17 w5_28 w6_28 w7_28 μw_28 v7_37 w5_37 w6_37 w8_37 μw_37 KC KE w5_37 w6_37 w8_37 μw_37))) (w_L_group_l37_84 p2 p3 K w5_17 w6_17 μw_17 w5_28 w6_28 w7_28 μw_28 v7_37 w5_37 w6_37 w8_37 μw_37 KC KE w5_37 w6_37 w8_37 μw_37))))
def w_L_group_l28_37 (p2 : Int32) (p3 : Int32) (K : Int32 → Prop) (w5_17 : Int32) (w6_17 : Int32) (μw_17 : MS) (w5_28 : Int32) (w6_28 : Int32) (w7_28 : Int32) (μw_28 : MS) (KC : (Int32 × Int32 × Int32 × MS) → Prop) (KE : (Int32 × Int32 × Int32 × MS) → Prop) (v5_37 : Int32) (v6_37 : Int32) (v7_37 : Int32) (v8_37 : Int32) (μ_37 : MS) : Prop := (winv 8 (fun (v : Int32 × Int32 × Int32 × MS) KC KE => b_L_group_37 p2 p3 K w5_17 w6_17 μw_17 w5_28 w6_28 w7_28 μw_28 v7_37 v.1 v.2.1 v.2.2.1 v.2.2.2 KC KE) (v5_37, v6_37, v8_37, μ_37) (fun (v : Int32 × Int32 × Int32 × MS) => (w_L_group_l28_90 p2 p3 K w5_17 w6_17 μw_17 w5_28 w6_28 w7_28 μw_28 KC KE v.1 v.2.1 v7_37 v.2.2.2)))
def b_L_group_28 (p2 : Int32) (p3 : Int32) (K : Int32 → Prop) (w5_17 : Int32) (w6_17 : Int32) (μw_17 : MS) (w5_28 : Int32) (w6_28 : Int32) (w7_28 : Int32) (μw_28 : MS) (KC : (Int32 × Int32 × Int32 × MS) → Prop) (KE : (Int32 × Int32 × Int32 × MS) → Prop) : Prop := (oif (p2 ≤ w7_28) (KE (w5_28, w6_28, w7_28, μw_28)) (w_L_group_l28_37 p2 p3 K w5_17 w6_17 μw_17 w5_28 w6_28 w7_28 μw_28 KC KE w5_28 w6_28 w7_28 0 μw_28))
def w_L_group_l17_28 (p2 : Int32) (p3 : Int32) (K : Int32 → Prop) (w5_17 : Int32) (w6_17 : Int32) (μw_17 : MS) (KC : (Int32 × Int32 × MS) → Prop) (KE : (Int32 × Int32 × MS) → Prop) (v5_28 : Int32) (v6_28 : Int32) (v7_28 : Int32) (μ_28 : MS) : Prop := (winv 8 (fun (v : Int32 × Int32 × Int32 × MS) KC KE => b_L_group_28 p2 p3 K w5_17 w6_17 μw_17 v.1 v.2.1 v.2.2.1 v.2.2.2 KC KE) (v5_28, v6_28, v7_28, μ_28) (fun (v : Int32 × Int32 × Int32 × MS) => (w_L_group_l17_96 p2 p3 K w5_17 w6_17 μw_17 KC KE v.1 v.2.1 v.2.2.2)))
def b_L_group_17 (p2 : Int32) (p3 : Int32) (K : Int32 → Prop) (w5_17 : Int32) (w6_17 : Int32) (μw_17 : MS) (KC : (Int32 × Int32 × MS) → Prop) (KE : (Int32 × Int32 × MS) → Prop) : Prop := (oif (w5_17 = 0) (KE (w5_17, w6_17, μw_17)) (w_L_group_l17_28 p2 p3 K w5_17 w6_17 μw_17 KC KE 0 w6_17 0 μw_17))
def w_L_group_m17 (p2 : Int32) (p3 : Int32) (K : Int32 → Prop) (v5_17 : Int32) (v6_17 : Int32) (μ_17 : MS) : Prop := (winv 8 (fun (v : Int32 × Int32 × MS) KC KE => b_L_group_17 p2 p3 K v.1 v.2.1 v.2.2 KC KE) (v5_17, v6_17, μ_17) (fun (v : Int32 × Int32 × MS) => (w_L_group_m99 p2 p3 K v.2.1 v.2.2)))
def w_L_group_m11 (p2 : Int32) (p3 : Int32) (K : Int32 → Prop) (μ_11 : MS) : Prop := (w_L_group_m17 p2 p3 K 1 0 μ_11)
def w_L_group (μ : MS) (p2 : Int32) (p3 : Int32) (K : Int32 → Prop) : Prop := (vp_in p3 16 ∧ (w_L_group_m11 p2 p3 K (mI (mZI μ 3) 3 (ix p3) 1)))
set_option maxHeartbeats 4000000 in
set_option maxRecDepth 100000 in
theorem k_L_group (l : Launch) (D : va_G) (a : Nat → ClassId) (A : Nat → Prop) (q0 : Nat) (q1 : Nat) (μ : MS) (p2 : Int32) (p3 : Int32) (K : Int32 → Prop)  (hok : w_L_group μ p2 p3 K) : KG l yL_group cL_group 9 (some .int) 3 95 513 2064 [.ref q0, .ref q1, .int p2, .int p3] A (BLa D a A [(q0, .inl (a 0, 16, .inl (μ.1 0))), (q1, .inl (a 0, 64, .inl (μ.1 1)))]) (fun _ v _ => ∃ v9, K v9 ∧ v = some (.int v9)) := by
  refine goLi (D := D) (a := a) (by decide +kernel) bla_good (Nat.le_of_ble_eq_true rfl) ?_
  intro p e s m args below meth c ls R Q hRf hRl hRc hRs C hB hl ret
  obtain ⟨-, hAf, hP, hD⟩ := hB
  have hM : HL D a 0 0 A [(q0, .inl (a 0, 16, .inl (μ.1 0))), (q1, .inl (a 0, 64, .inl (μ.1 1)))] none s.heap s.heap [] := ⟨hP, hD, va_S.rf, trivial⟩
  have hl : lv_has ls 9 [(0, .ref q0), (1, .ref q1), (2, .int p2), (3, .int p3)] := hl
  have hx := C.1.1
  have hb := C.1.2.1
  have hts := C.1.2.2.2.2
  have hown := C.1.2.2.2.1
  have J_m116 : ∀  (v6_116 : Int32) (v7_116 : Int32) (μ_116 : MS), w_L_group_m116 p2 p3 K v6_116 v7_116 μ_116 → ∀ (H : Heap) (locs : List Loc) (ls : Array Slot), HL D a 0 0 A [(q0, .inl (a 0, 16, .inl (μ_116.1 0))), (q1, .inl (a 0, 64, .inl (μ_116.1 1)))] none s.heap H locs → lv_has ls 9 [(6, .int v6_116), (7, .int v7_116)] → W p l e R s m args below meth c H locs 513 2064 Q (F0 m 116 ls []) := by
    intro v6_116 v7_116 μ_116 hok H locs ls hM hl
    refine lv_iload hx hb dL_group_116 (lv_at hl 0 rfl) ?_
    refine lv_if_ne (tgt := 125) hx hb dL_group_118 (by decide) (fun c_2 => ?_) (fun c_2 => ?_)
    · have hok := oif_neg hok c_2
      refine lv_iload hx hb dL_group_125 (lv_at hl 1 rfl) ?_
      refine W.widen (k := 513) (n := 2064) (by omega) (by omega) ?_
      exact ret _ _ _ _ _ hM.2.2.1 dL_group_127 ⟨_, hok, rfl⟩
    · have hok := oif_pos hok c_2
      refine lv_iconst (v := (-1)) hx hb dL_group_121 (by decide) ?_
      refine lv_goto (tgt := 127) hx hb dL_group_122 (by decide) ?_
      refine W.widen (k := 513) (n := 2064) (by omega) (by omega) ?_
      exact ret _ _ _ _ _ hM.2.2.1 dL_group_127 ⟨_, hok, rfl⟩
  have J_m102 : ∀ (q3 : Nat) (hA3 : A q3) (v6_102 : Int32) (v7_102 : Int32) (μ_102 : MS), w_L_group_m102 p2 p3 K v6_102 v7_102 μ_102 → ∀ (H : Heap) (locs : List Loc) (ls : Array Slot), HL D a 0 0 A [(q0, .inl (a 0, 16, .inl (μ_102.1 0))), (q1, .inl (a 0, 64, .inl (μ_102.1 1))), (q3, .inl (a 0, 16, .inl (μ_102.1 3)))] none s.heap H locs → lv_has ls 9 [(4, .ref q3), (6, .int v6_102), (7, .int v7_102)] → W p l e R s m args below meth c H locs 513 2064 Q (F0 m 102 ls []) := by
    intro q3 hA3 v6_102 v7_102 μ_102 hok H locs ls hM hl
    obtain ⟨I9_3, i9_4, n9_5, s9_6⟩ := hok
    refine inv_W (I := I9_3) (fun (n : Nat) (v : Int32) => ∀ (k j : Nat) (H : Heap) (locs : List Loc) (ls : Array Slot), k + bud n 0 ≤ 513 → j + bud n 0 ≤ 2064 → HL D a 0 0 A [(q0, .inl (a 0, 16, .inl (μ_102.1 0))), (q1, .inl (a 0, 64, .inl (μ_102.1 1))), (q3, .inl (a 0, 16, .inl (μ_102.1 3)))] none s.heap H locs → lv_has ls 9 [(4, .ref q3), (6, .int v6_102), (7, .int v)] → W p l e R s m args below meth c H locs k j Q (F0 m 102 ls [])) n9_5 (fun n_102 v hI9 kc9 => ?_) 17 v7_102 i9_4 _ _ _ _ ls (bud_e (t := 0) (by omega) rfl) (bud_e (t := 0) (by omega) rfl) hM (lv_sub hl [0, 1, 2] rfl)
    obtain ⟨w7_102, rfl⟩ : ∃ z, z = v := ⟨_, rfl⟩
    have hok : b_L_group_102 p2 p3 K v6_102 μ_102 w7_102 (I9_3 n_102) (fun (v : Int32) => (w_L_group_m116 p2 p3 K v6_102 v μ_102)) := s9_6 n_102 (w7_102) hI9
    intro k_102 j_102 H locs ls hk_102 hj_102 hM hl
    replace hk_102 := bud_s hk_102
    replace hj_102 := bud_s hj_102
    refine lv_aload hx hb dL_group_102 (lv_at hl 0 rfl) ?_
    refine lv_iload hx hb dL_group_104 (lv_at hl 2 rfl) ?_
    have ok_7 := And.left hok
    have hok := And.right hok
    refine la_I C hM 2 rfl ok_7 dL_group_106 ?_
    refine lv_if_ne (tgt := 116) hx hb dL_group_107 (by decide) (fun c_8 => ?_) (fun c_8 => ?_)
    · have hok := oif_neg hok c_8
      have hM : HL D a 0 0 A [(q0, .inl (a 0, 16, .inl (μ_102.1 0))), (q1, .inl (a 0, 64, .inl (μ_102.1 1)))] none s.heap H locs := hM.sub [0, 1] rfl rfl
      refine W.widen (k := 513) (n := 2064) (by omega) (by omega) ?_
      exact J_m116 v6_102 w7_102 μ_102 hok _ _ ls hM (lv_sub hl [1, 2] rfl)
    · have hok := oif_pos hok c_8
      refine lv_iinc (v := (w7_102 + 1)) (lv' := [(7, .int (w7_102 + 1)), (4, .ref q3), (6, .int v6_102)]) hx hb dL_group_110 hl (k := 2) rfl rfl (by decide) rfl (fun ls hl => ?_)
      refine lv_goto (tgt := 102) hx hb dL_group_113 (by decide) ?_
      exact kc9 (w7_102 + 1) hok _ _ _ _ _ (by omega) (by omega) hM (lv_sub hl [1, 2, 0] rfl)
  have J_m99 : ∀ (q3 : Nat) (hA3 : A q3) (v6_99 : Int32) (μ_99 : MS), w_L_group_m99 p2 p3 K v6_99 μ_99 → ∀ (H : Heap) (locs : List Loc) (ls : Array Slot), HL D a 0 0 A [(q0, .inl (a 0, 16, .inl (μ_99.1 0))), (q1, .inl (a 0, 64, .inl (μ_99.1 1))), (q3, .inl (a 0, 16, .inl (μ_99.1 3)))] none s.heap H locs → lv_has ls 9 [(4, .ref q3), (6, .int v6_99)] → W p l e R s m args below meth c H locs 513 2064 Q (F0 m 99 ls []) := by
    intro q3 hA3 v6_99 μ_99 hok H locs ls hM hl
    refine lv_iconst (v := 0) hx hb dL_group_99 (by decide) ?_
    refine lv_istore (lv' := [(7, .int 0), (4, .ref q3), (6, .int v6_99)]) hx hb dL_group_100 hl (by decide) rfl (fun ls hl => ?_)
    refine W.widen (k := 513) (n := 2064) (by omega) (by omega) ?_
    exact J_m102 q3 hA3 v6_99 0 μ_99 hok _ _ ls hM (lv_sub hl [1, 2, 0] rfl)
  have J_m17 : ∀ (q3 : Nat) (hA3 : A q3) (v5_17 : Int32) (v6_17 : Int32) (μ_17 : MS), w_L_group_m17 p2 p3 K v5_17 v6_17 μ_17 → ∀ (H : Heap) (locs : List Loc) (ls : Array Slot), HL D a 0 0 A [(q0, .inl (a 0, 16, .inl (μ_17.1 0))), (q1, .inl (a 0, 64, .inl (μ_17.1 1))), (q3, .inl (a 0, 16, .inl (μ_17.1 3)))] none s.heap H locs → lv_has ls 9 [(0, .ref q0), (1, .ref q1), (2, .int p2), (4, .ref q3), (5, .int v5_17), (6, .int v6_17)] → W p l e R s m args below meth c H locs 1 16 Q (F0 m 17 ls []) := by
    intro q3 hA3 v5_17 v6_17 μ_17 hok H locs ls hM hl
    obtain ⟨I9_9, i9_10, n9_11, s9_12⟩ := hok
    refine inv_W (I := I9_9) (fun (n : Nat) (v : Int32 × Int32 × MS) => ∀ (k j : Nat) (H : Heap) (locs : List Loc) (ls : Array Slot), k + bud n 64 ≤ 513 → j + bud n 256 ≤ 2064 → HL D a 0 0 A [(q0, .inl (a 0, 16, .inl (v.2.2.1 0))), (q1, .inl (a 0, 64, .inl (v.2.2.1 1))), (q3, .inl (a 0, 16, .inl (v.2.2.1 3)))] none s.heap H locs → lv_has ls 9 [(0, .ref q0), (1, .ref q1), (2, .int p2), (4, .ref q3), (5, .int v.1), (6, .int v.2.1)] → W p l e R s m args below meth c H locs k j Q (F0 m 17 ls [])) n9_11 (fun n_17 v hI9 kc9 => ?_) 8 (v5_17, v6_17, μ_17) i9_10 _ _ _ _ ls (bud_e (t := 512) (by omega) rfl) (bud_e (t := 2048) (by omega) rfl) hM (lv_sub hl [0, 1, 2, 3, 4, 5] rfl)
    obtain ⟨w5_17, w6_17, μw_17⟩ := v
    have hok : b_L_group_17 p2 p3 K w5_17 w6_17 μw_17 (I9_9 n_17) (fun (v : Int32 × Int32 × MS) => (w_L_group_m99 p2 p3 K v.2.1 v.2.2)) := s9_12 n_17 (w5_17, w6_17, μw_17) hI9
    intro k_17 j_17 H locs ls hk_17 hj_17 hM hl
    replace hk_17 := bud_s hk_17
    replace hj_17 := bud_s hj_17
    have J_l17_96 : ∀  (v5_96 : Int32) (v6_96 : Int32) (μ_96 : MS), w_L_group_l17_96 p2 p3 K w5_17 w6_17 μw_17 (I9_9 n_17) (fun (v : Int32 × Int32 × MS) => (w_L_group_m99 p2 p3 K v.2.1 v.2.2)) v5_96 v6_96 μ_96 → ∀ (H : Heap) (locs : List Loc) (ls : Array Slot), HL D a 0 0 A [(q0, .inl (a 0, 16, .inl (μ_96.1 0))), (q1, .inl (a 0, 64, .inl (μ_96.1 1))), (q3, .inl (a 0, 16, .inl (μ_96.1 3)))] none s.heap H locs → lv_has ls 9 [(0, .ref q0), (1, .ref q1), (2, .int p2), (4, .ref q3), (5, .int v5_96), (6, .int v6_96)] → W p l e R s m args below meth c H locs (k_17 + 64) (j_17 + 256) Q (F0 m 96 ls []) := by
      intro v5_96 v6_96 μ_96 hok H locs ls hM hl
      refine lv_goto (tgt := 17) hx hb dL_group_96 (by decide) ?_
      exact kc9 (v5_96, v6_96, μ_96) hok _ _ _ _ _ (by omega) (by omega) hM (lv_sub hl [0, 1, 2, 3, 4, 5] rfl)
    have J_l17_28 : ∀  (v5_28 : Int32) (v6_28 : Int32) (v7_28 : Int32) (μ_28 : MS), w_L_group_l17_28 p2 p3 K w5_17 w6_17 μw_17 (I9_9 n_17) (fun (v : Int32 × Int32 × MS) => (w_L_group_m99 p2 p3 K v.2.1 v.2.2)) v5_28 v6_28 v7_28 μ_28 → ∀ (H : Heap) (locs : List Loc) (ls : Array Slot), HL D a 0 0 A [(q0, .inl (a 0, 16, .inl (μ_28.1 0))), (q1, .inl (a 0, 64, .inl (μ_28.1 1))), (q3, .inl (a 0, 16, .inl (μ_28.1 3)))] none s.heap H locs → lv_has ls 9 [(0, .ref q0), (1, .ref q1), (2, .int p2), (4, .ref q3), (5, .int v5_28), (6, .int v6_28), (7, .int v7_28)] → W p l e R s m args below meth c H locs (k_17 + 0) (j_17 + 0) Q (F0 m 28 ls []) := by
      intro v5_28 v6_28 v7_28 μ_28 hok H locs ls hM hl
      obtain ⟨I9_14, i9_15, n9_16, s9_17⟩ := hok
      refine inv_W (I := I9_14) (fun (n : Nat) (v : Int32 × Int32 × Int32 × MS) => ∀ (k j : Nat) (H : Heap) (locs : List Loc) (ls : Array Slot), k + bud n 8 ≤ (k_17 + 64) → j + bud n 32 ≤ (j_17 + 256) → HL D a 0 0 A [(q0, .inl (a 0, 16, .inl (v.2.2.2.1 0))), (q1, .inl (a 0, 64, .inl (v.2.2.2.1 1))), (q3, .inl (a 0, 16, .inl (v.2.2.2.1 3)))] none s.heap H locs → lv_has ls 9 [(0, .ref q0), (1, .ref q1), (2, .int p2), (4, .ref q3), (5, .int v.1), (6, .int v.2.1), (7, .int v.2.2.1)] → W p l e R s m args below meth c H locs k j Q (F0 m 28 ls [])) n9_16 (fun n_28 v hI9 kc9 => ?_) 8 (v5_28, v6_28, v7_28, μ_28) i9_15 _ _ _ _ ls (bud_e (t := 64) (by omega) rfl) (bud_e (t := 256) (by omega) rfl) hM (lv_sub hl [0, 1, 2, 3, 4, 5, 6] rfl)
      obtain ⟨w5_28, w6_28, w7_28, μw_28⟩ := v
      have hok : b_L_group_28 p2 p3 K w5_17 w6_17 μw_17 w5_28 w6_28 w7_28 μw_28 (I9_14 n_28) (fun (v : Int32 × Int32 × Int32 × MS) => (w_L_group_l17_96 p2 p3 K w5_17 w6_17 μw_17 (I9_9 n_17) (fun (v : Int32 × Int32 × MS) => (w_L_group_m99 p2 p3 K v.2.1 v.2.2)) v.1 v.2.1 v.2.2.2)) := s9_17 n_28 (w5_28, w6_28, w7_28, μw_28) hI9
      intro k_28 j_28 H locs ls hk_28 hj_28 hM hl
      replace hk_28 := bud_s hk_28
      replace hj_28 := bud_s hj_28
      have J_l28_90 : ∀  (v5_90 : Int32) (v6_90 : Int32) (v7_90 : Int32) (μ_90 : MS), w_L_group_l28_90 p2 p3 K w5_17 w6_17 μw_17 w5_28 w6_28 w7_28 μw_28 (I9_14 n_28) (fun (v : Int32 × Int32 × Int32 × MS) => (w_L_group_l17_96 p2 p3 K w5_17 w6_17 μw_17 (I9_9 n_17) (fun (v : Int32 × Int32 × MS) => (w_L_group_m99 p2 p3 K v.2.1 v.2.2)) v.1 v.2.1 v.2.2.2)) v5_90 v6_90 v7_90 μ_90 → ∀ (H : Heap) (locs : List Loc) (ls : Array Slot), HL D a 0 0 A [(q0, .inl (a 0, 16, .inl (μ_90.1 0))), (q1, .inl (a 0, 64, .inl (μ_90.1 1))), (q3, .inl (a 0, 16, .inl (μ_90.1 3)))] none s.heap H locs → lv_has ls 9 [(0, .ref q0), (1, .ref q1), (2, .int p2), (4, .ref q3), (5, .int v5_90), (6, .int v6_90), (7, .int v7_90)] → W p l e R s m args below meth c H locs (k_28 + 8) (j_28 + 32) Q (F0 m 90 ls []) := by
        intro v5_90 v6_90 v7_90 μ_90 hok H locs ls hM hl
        refine lv_iinc (v := (v7_90 + 1)) (lv' := [(7, .int (v7_90 + 1)), (0, .ref q0), (1, .ref q1), (2, .int p2), (4, .ref q3), (5, .int v5_90), (6, .int v6_90)]) hx hb dL_group_90 hl (k := 6) rfl rfl (by decide) rfl (fun ls hl => ?_)
        refine lv_goto (tgt := 28) hx hb dL_group_93 (by decide) ?_
        exact kc9 (v5_90, v6_90, (v7_90 + 1), μ_90) hok _ _ _ _ _ (by omega) (by omega) hM (lv_sub hl [1, 2, 3, 4, 5, 6, 0] rfl)
      have J_l28_37 : ∀  (v5_37 : Int32) (v6_37 : Int32) (v7_37 : Int32) (v8_37 : Int32) (μ_37 : MS), w_L_group_l28_37 p2 p3 K w5_17 w6_17 μw_17 w5_28 w6_28 w7_28 μw_28 (I9_14 n_28) (fun (v : Int32 × Int32 × Int32 × MS) => (w_L_group_l17_96 p2 p3 K w5_17 w6_17 μw_17 (I9_9 n_17) (fun (v : Int32 × Int32 × MS) => (w_L_group_m99 p2 p3 K v.2.1 v.2.2)) v.1 v.2.1 v.2.2.2)) v5_37 v6_37 v7_37 v8_37 μ_37 → ∀ (H : Heap) (locs : List Loc) (ls : Array Slot), HL D a 0 0 A [(q0, .inl (a 0, 16, .inl (μ_37.1 0))), (q1, .inl (a 0, 64, .inl (μ_37.1 1))), (q3, .inl (a 0, 16, .inl (μ_37.1 3)))] none s.heap H locs → lv_has ls 9 [(0, .ref q0), (1, .ref q1), (2, .int p2), (4, .ref q3), (5, .int v5_37), (6, .int v6_37), (7, .int v7_37), (8, .int v8_37)] → W p l e R s m args below meth c H locs (k_28 + 0) (j_28 + 0) Q (F0 m 37 ls []) := by
        intro v5_37 v6_37 v7_37 v8_37 μ_37 hok H locs ls hM hl
        obtain ⟨I9_19, i9_20, n9_21, s9_22⟩ := hok
        refine inv_W (I := I9_19) (fun (n : Nat) (v : Int32 × Int32 × Int32 × MS) => ∀ (k j : Nat) (H : Heap) (locs : List Loc) (ls : Array Slot), k + bud n 1 ≤ (k_28 + 8) → j + bud n 4 ≤ (j_28 + 32) → HL D a 0 0 A [(q0, .inl (a 0, 16, .inl (v.2.2.2.1 0))), (q1, .inl (a 0, 64, .inl (v.2.2.2.1 1))), (q3, .inl (a 0, 16, .inl (v.2.2.2.1 3)))] none s.heap H locs → lv_has ls 9 [(0, .ref q0), (1, .ref q1), (2, .int p2), (4, .ref q3), (5, .int v.1), (6, .int v.2.1), (7, .int v7_37), (8, .int v.2.2.1)] → W p l e R s m args below meth c H locs k j Q (F0 m 37 ls [])) n9_21 (fun n_37 v hI9 kc9 => ?_) 8 (v5_37, v6_37, v8_37, μ_37) i9_20 _ _ _ _ ls (bud_e (t := 8) (by omega) rfl) (bud_e (t := 32) (by omega) rfl) hM (lv_sub hl [0, 1, 2, 3, 4, 5, 6, 7] rfl)
        obtain ⟨w5_37, w6_37, w8_37, μw_37⟩ := v
        have hok : b_L_group_37 p2 p3 K w5_17 w6_17 μw_17 w5_28 w6_28 w7_28 μw_28 v7_37 w5_37 w6_37 w8_37 μw_37 (I9_19 n_37) (fun (v : Int32 × Int32 × Int32 × MS) => (w_L_group_l28_90 p2 p3 K w5_17 w6_17 μw_17 w5_28 w6_28 w7_28 μw_28 (I9_14 n_28) (fun (v : Int32 × Int32 × Int32 × MS) => (w_L_group_l17_96 p2 p3 K w5_17 w6_17 μw_17 (I9_9 n_17) (fun (v : Int32 × Int32 × MS) => (w_L_group_m99 p2 p3 K v.2.1 v.2.2)) v.1 v.2.1 v.2.2.2)) v.1 v.2.1 v7_37 v.2.2.2)) := s9_22 n_37 (w5_37, w6_37, w8_37, μw_37) hI9
        intro k_37 j_37 H locs ls hk_37 hj_37 hM hl
        replace hk_37 := bud_s hk_37
        replace hj_37 := bud_s hj_37
        have J_l37_84 : ∀  (v5_84 : Int32) (v6_84 : Int32) (v8_84 : Int32) (μ_84 : MS), w_L_group_l37_84 p2 p3 K w5_17 w6_17 μw_17 w5_28 w6_28 w7_28 μw_28 v7_37 w5_37 w6_37 w8_37 μw_37 (I9_19 n_37) (fun (v : Int32 × Int32 × Int32 × MS) => (w_L_group_l28_90 p2 p3 K w5_17 w6_17 μw_17 w5_28 w6_28 w7_28 μw_28 (I9_14 n_28) (fun (v : Int32 × Int32 × Int32 × MS) => (w_L_group_l17_96 p2 p3 K w5_17 w6_17 μw_17 (I9_9 n_17) (fun (v : Int32 × Int32 × MS) => (w_L_group_m99 p2 p3 K v.2.1 v.2.2)) v.1 v.2.1 v.2.2.2)) v.1 v.2.1 v7_37 v.2.2.2)) v5_84 v6_84 v8_84 μ_84 → ∀ (H : Heap) (locs : List Loc) (ls : Array Slot), HL D a 0 0 A [(q0, .inl (a 0, 16, .inl (μ_84.1 0))), (q1, .inl (a 0, 64, .inl (μ_84.1 1))), (q3, .inl (a 0, 16, .inl (μ_84.1 3)))] none s.heap H locs → lv_has ls 9 [(0, .ref q0), (1, .ref q1), (2, .int p2), (4, .ref q3), (5, .int v5_84), (6, .int v6_84), (7, .int v7_37), (8, .int v8_84)] → W p l e R s m args below meth c H locs (k_37 + 1) (j_37 + 4) Q (F0 m 84 ls []) := by
          intro v5_84 v6_84 v8_84 μ_84 hok H locs ls hM hl
          refine lv_iinc (v := (v8_84 + 1)) (lv' := [(8, .int (v8_84 + 1)), (0, .ref q0), (1, .ref q1), (2, .int p2), (4, .ref q3), (5, .int v5_84), (6, .int v6_84), (7, .int v7_37)]) hx hb dL_group_84 hl (k := 7) rfl rfl (by decide) rfl (fun ls hl => ?_)
          refine lv_goto (tgt := 37) hx hb dL_group_87 (by decide) ?_
          exact kc9 (v5_84, v6_84, (v8_84 + 1), μ_84) hok _ _ _ _ _ (by omega) (by omega) hM (lv_sub hl [1, 2, 3, 4, 5, 6, 7, 0] rfl)
        have J_l37_78 : ∀  (v6_78 : Int32) (v8_78 : Int32) (μ_78 : MS), w_L_group_l37_78 p2 p3 K w5_17 w6_17 μw_17 w5_28 w6_28 w7_28 μw_28 v7_37 w5_37 w6_37 w8_37 μw_37 (I9_19 n_37) (fun (v : Int32 × Int32 × Int32 × MS) => (w_L_group_l28_90 p2 p3 K w5_17 w6_17 μw_17 w5_28 w6_28 w7_28 μw_28 (I9_14 n_28) (fun (v : Int32 × Int32 × Int32 × MS) => (w_L_group_l17_96 p2 p3 K w5_17 w6_17 μw_17 (I9_9 n_17) (fun (v : Int32 × Int32 × MS) => (w_L_group_m99 p2 p3 K v.2.1 v.2.2)) v.1 v.2.1 v.2.2.2)) v.1 v.2.1 v7_37 v.2.2.2)) v6_78 v8_78 μ_78 → ∀ (H : Heap) (locs : List Loc) (ls : Array Slot), HL D a 0 0 A [(q0, .inl (a 0, 16, .inl (μ_78.1 0))), (q1, .inl (a 0, 64, .inl (μ_78.1 1))), (q3, .inl (a 0, 16, .inl (μ_78.1 3)))] none s.heap H locs → lv_has ls 9 [(0, .ref q0), (1, .ref q1), (2, .int p2), (4, .ref q3), (6, .int v6_78), (7, .int v7_37), (8, .int v8_78)] → W p l e R s m args below meth c H locs (k_37 + 1) (j_37 + 4) Q (F0 m 78 ls []) := by
          intro v6_78 v8_78 μ_78 hok H locs ls hM hl
          refine lv_iinc (v := (v6_78 + 1)) (lv' := [(6, .int (v6_78 + 1)), (0, .ref q0), (1, .ref q1), (2, .int p2), (4, .ref q3), (7, .int v7_37), (8, .int v8_78)]) hx hb dL_group_78 hl (k := 4) rfl rfl (by decide) rfl (fun ls hl => ?_)
          refine lv_iconst (v := 1) hx hb dL_group_81 (by decide) ?_
          refine lv_istore (lv' := [(5, .int 1), (6, .int (v6_78 + 1)), (0, .ref q0), (1, .ref q1), (2, .int p2), (4, .ref q3), (7, .int v7_37), (8, .int v8_78)]) hx hb dL_group_82 hl (by decide) rfl (fun ls hl => ?_)
          refine W.widen (k := (k_37 + 1)) (n := (j_37 + 4)) (by omega) (by omega) ?_
          exact J_l37_84 1 (v6_78 + 1) v8_78 μ_78 hok _ _ ls hM (lv_sub hl [2, 3, 4, 5, 0, 1, 6, 7] rfl)
        refine lv_iload hx hb dL_group_37 (lv_at hl 7 rfl) ?_
        refine lv_iload_n hx hb dL_group_39 rfl (lv_at hl 2 rfl) ?_
        refine lv_icmp_ge (tgt := 90) hx hb dL_group_40 (by decide) (fun c_23 => ?_) (fun c_23 => ?_)
        · have hok := oif_pos hok c_23
          refine W.widen (k := (k_28 + 8)) (n := (j_28 + 32)) (by omega) (by omega) ?_
          exact J_l28_90 w5_37 w6_37 v7_37 μw_37 hok _ _ ls hM (lv_sub hl [0, 1, 2, 3, 4, 5, 6] rfl)
        · have hok := oif_neg hok c_23
          refine lv_aload hx hb dL_group_43 (lv_at hl 3 rfl) ?_
          refine lv_iload hx hb dL_group_45 (lv_at hl 6 rfl) ?_
          have ok_24 := And.left hok
          have hok := And.right hok
          refine la_I C hM 2 rfl ok_24 dL_group_47 ?_
          refine lv_iconst (v := 1) hx hb dL_group_48 (by decide) ?_
          refine lv_icmp_ne (tgt := 84) hx hb dL_group_49 (by decide) (fun c_25 => ?_) (fun c_25 => ?_)
          · have hok := oif_neg hok c_25
            refine W.widen (k := (k_37 + 1)) (n := (j_37 + 4)) (by omega) (by omega) ?_
            exact J_l37_84 w5_37 w6_37 w8_37 μw_37 hok _ _ ls hM (lv_sub hl [0, 1, 2, 3, 4, 5, 6, 7] rfl)
          · have hok := oif_pos hok c_25
            refine lv_aload hx hb dL_group_52 (lv_at hl 3 rfl) ?_
            refine lv_iload hx hb dL_group_54 (lv_at hl 7 rfl) ?_
            have ok_26 := And.left hok
            have hok := And.right hok
            refine la_I C hM 2 rfl ok_26 dL_group_56 ?_
            refine lv_if_ne (tgt := 84) hx hb dL_group_57 (by decide) (fun c_27 => ?_) (fun c_27 => ?_)
            · have hok := oif_neg hok c_27
              refine W.widen (k := (k_37 + 1)) (n := (j_37 + 4)) (by omega) (by omega) ?_
              exact J_l37_84 w5_37 w6_37 w8_37 μw_37 hok _ _ ls hM (lv_sub hl [0, 1, 2, 3, 4, 5, 6, 7] rfl)
            · have hok := oif_pos hok c_27
              refine lv_aload_n hx hb dL_group_60 rfl (lv_at hl 0 rfl) ?_
              refine lv_aload_n hx hb dL_group_61 rfl (lv_at hl 1 rfl) ?_
              refine lv_iload hx hb dL_group_62 (lv_at hl 6 rfl) ?_
              refine lv_iload hx hb dL_group_64 (lv_at hl 7 rfl) ?_
              obtain ⟨S9_28, w9_29, g9_30⟩ := hok
              refine lc_0 (av := [.ref q0, .ref q1, .int v7_37, .int w8_37]) C hM hAf [0, 1] rfl rfl (fun A9 => k_L_joins l D a A9 q0 q1 μw_37 v7_37 w8_37 S9_28 w9_29) cw_L_22 (okR_of hRf hRl (Nat.le_of_ble_eq_true rfl) (Nat.le_of_ble_eq_true rfl)) rfl rfl hl.1 (Nat.le_of_ble_eq_true rfl) (by omega) (by omega) dL_group_66 (fun H locs v9 hM hP9 => ?_)
              obtain ⟨v9_32, hS_31, rfl⟩ := hP9
              have hM : HL D a 0 0 A [(q0, .inl (a 0, 16, .inl (μw_37.1 0))), (q1, .inl (a 0, 64, .inl (μw_37.1 1))), (q3, .inl (a 0, 16, .inl (μw_37.1 3)))] none s.heap H locs := hM
              have hok := g9_30 v9_32 hS_31
              refine lv_if_eq (tgt := 84) hx hb dL_group_69 (by decide) (fun c_33 => ?_) (fun c_33 => ?_)
              · have hok := oif_pos hok c_33
                refine W.widen (k := (k_37 + 1)) (n := (j_37 + 4)) (by omega) (by omega) ?_
                exact J_l37_84 w5_37 w6_37 w8_37 μw_37 hok _ _ ls hM (lv_sub hl [0, 1, 2, 3, 4, 5, 6, 7] rfl)
              · have hok := oif_neg hok c_33
                refine lv_aload hx hb dL_group_72 (lv_at hl 3 rfl) ?_
                refine lv_iload hx hb dL_group_74 (lv_at hl 7 rfl) ?_
                refine lv_iconst (v := 1) hx hb dL_group_76 (by decide) ?_
                have ok_34 := And.left hok
                have hok := And.right hok
                refine ls_I C hM 2 rfl hA3 ok_34 dL_group_77 (fun H locs hM => ?_)
                have hM : HL D a 0 0 A [(q0, .inl (a 0, 16, .inl ((mI μw_37 3 (ix w8_37) 1).1 0))), (q1, .inl (a 0, 64, .inl ((mI μw_37 3 (ix w8_37) 1).1 1))), (q3, .inl (a 0, 16, .inl ((mI μw_37 3 (ix w8_37) 1).1 3)))] none s.heap H locs := hM
                refine W.widen (k := (k_37 + 1)) (n := (j_37 + 4)) (by omega) (by omega) ?_
                exact J_l37_78 w6_37 w8_37 (mI μw_37 3 (ix w8_37) 1) hok _ _ ls hM (lv_sub hl [0, 1, 2, 3, 5, 6, 7] rfl)
      refine lv_iload hx hb dL_group_28 (lv_at hl 6 rfl) ?_
      refine lv_iload_n hx hb dL_group_30 rfl (lv_at hl 2 rfl) ?_
      refine lv_icmp_ge (tgt := 96) hx hb dL_group_31 (by decide) (fun c_18 => ?_) (fun c_18 => ?_)
      · have hok := oif_pos hok c_18
        refine W.widen (k := (k_17 + 64)) (n := (j_17 + 256)) (by omega) (by omega) ?_
        exact J_l17_96 w5_28 w6_28 μw_28 hok _ _ ls hM (lv_sub hl [0, 1, 2, 3, 4, 5] rfl)
      · have hok := oif_neg hok c_18
        refine lv_iconst (v := 0) hx hb dL_group_34 (by decide) ?_
        refine lv_istore (lv' := [(8, .int 0), (0, .ref q0), (1, .ref q1), (2, .int p2), (4, .ref q3), (5, .int w5_28), (6, .int w6_28), (7, .int w7_28)]) hx hb dL_group_35 hl (by decide) rfl (fun ls hl => ?_)
        refine W.widen (k := (k_28 + 0)) (n := (j_28 + 0)) (by omega) (by omega) ?_
        exact J_l28_37 w5_28 w6_28 w7_28 0 μw_28 hok _ _ ls hM (lv_sub hl [1, 2, 3, 4, 5, 6, 7, 0] rfl)
    refine lv_iload hx hb dL_group_17 (lv_at hl 4 rfl) ?_
    refine lv_if_eq (tgt := 99) hx hb dL_group_19 (by decide) (fun c_13 => ?_) (fun c_13 => ?_)
    · have hok := oif_pos hok c_13
      refine W.widen (k := 513) (n := 2064) (by omega) (by omega) ?_
      exact J_m99 q3 hA3 w6_17 μw_17 hok _ _ ls hM (lv_sub hl [3, 5] rfl)
    · have hok := oif_neg hok c_13
      refine lv_iconst (v := 0) hx hb dL_group_22 (by decide) ?_
      refine lv_istore (lv' := [(5, .int 0), (0, .ref q0), (1, .ref q1), (2, .int p2), (4, .ref q3), (6, .int w6_17)]) hx hb dL_group_23 hl (by decide) rfl (fun ls hl => ?_)
      refine lv_iconst (v := 0) hx hb dL_group_25 (by decide) ?_
      refine lv_istore (lv' := [(7, .int 0), (5, .int 0), (0, .ref q0), (1, .ref q1), (2, .int p2), (4, .ref q3), (6, .int w6_17)]) hx hb dL_group_26 hl (by decide) rfl (fun ls hl => ?_)
      refine W.widen (k := (k_17 + 0)) (n := (j_17 + 0)) (by omega) (by omega) ?_
      exact J_l17_28 0 w6_17 0 μw_17 hok _ _ ls hM (lv_sub hl [2, 3, 4, 5, 1, 6, 0] rfl)
  have J_m11 : ∀ (q3 : Nat) (hA3 : A q3) (μ_11 : MS), w_L_group_m11 p2 p3 K μ_11 → ∀ (H : Heap) (locs : List Loc) (ls : Array Slot), HL D a 0 0 A [(q0, .inl (a 0, 16, .inl (μ_11.1 0))), (q1, .inl (a 0, 64, .inl (μ_11.1 1))), (q3, .inl (a 0, 16, .inl (μ_11.1 3)))] none s.heap H locs → lv_has ls 9 [(0, .ref q0), (1, .ref q1), (2, .int p2), (4, .ref q3)] → W p l e R s m args below meth c H locs 1 16 Q (F0 m 11 ls []) := by
    intro q3 hA3 μ_11 hok H locs ls hM hl
    refine lv_iconst (v := 1) hx hb dL_group_11 (by decide) ?_
    refine lv_istore (lv' := [(5, .int 1), (0, .ref q0), (1, .ref q1), (2, .int p2), (4, .ref q3)]) hx hb dL_group_12 hl (by decide) rfl (fun ls hl => ?_)
    refine lv_iconst (v := 0) hx hb dL_group_14 (by decide) ?_
    refine lv_istore (lv' := [(6, .int 0), (5, .int 1), (0, .ref q0), (1, .ref q1), (2, .int p2), (4, .ref q3)]) hx hb dL_group_15 hl (by decide) rfl (fun ls hl => ?_)
    refine W.widen (k := 1) (n := 16) (by omega) (by omega) ?_
    exact J_m17 q3 hA3 1 0 μ_11 hok _ _ ls hM (lv_sub hl [2, 3, 4, 5, 1, 0] rfl)
  refine lv_bipush (v := nI 16) hx hb dL_group_0 (by decide) ?_
  refine ln_I C hM hAf (N := 16) (by omega) (by omega) (by omega) dL_group_2 (fun q3 H locs hA3 hM => ?_)
  have hM : HL D a 0 0 A [(q0, .inl (a 0, 16, .inl ((mZI μ 3).1 0))), (q1, .inl (a 0, 64, .inl ((mZI μ 3).1 1))), (q3, .inl (a 0, 16, .inl ((mZI μ 3).1 3)))] none s.heap H locs := hM
  refine lv_astore (lv' := [(4, .ref q3), (0, .ref q0), (1, .ref q1), (2, .int p2), (3, .int p3)]) hx hb dL_group_4 hl (by decide) rfl (fun ls hl => ?_)
  refine lv_aload hx hb dL_group_6 (lv_at hl 0 rfl) ?_
  refine lv_iload_n hx hb dL_group_8 rfl (lv_at hl 4 rfl) ?_
  refine lv_iconst (v := 1) hx hb dL_group_9 (by decide) ?_
  have ok_1 := And.left hok
  have hok := And.right hok
  refine ls_I C hM 2 rfl hA3 ok_1 dL_group_10 (fun H locs hM => ?_)
  have hM : HL D a 0 0 A [(q0, .inl (a 0, 16, .inl ((mI (mZI μ 3) 3 (ix p3) 1).1 0))), (q1, .inl (a 0, 64, .inl ((mI (mZI μ 3) 3 (ix p3) 1).1 1))), (q3, .inl (a 0, 16, .inl ((mI (mZI μ 3) 3 (ix p3) 1).1 3)))] none s.heap H locs := hM
  refine W.widen (k := 1) (n := 16) (by omega) (by omega) ?_
  exact J_m11 q3 hA3 (mI (mZI μ 3) 3 (ix p3) 1) hok _ _ ls hM (lv_sub hl [1, 2, 3, 0] rfl)
