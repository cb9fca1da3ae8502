def f_X11_thrown (μ : MS) : Int32 := (mi μ 0 0)
set_option maxHeartbeats 4000000 in
set_option maxRecDepth 100000 in
theorem k_X11_thrown (l : Launch) (D : va_G) (a : Nat → ClassId) (mo : Nat) (μ : MS) : K0 l yX11_thrown cX11_thrown 1 ((some .int)) 0 0 (.ref mo :: []) (BM D a mo μ) (.int (f_X11_thrown μ)) := by
  refine go0i (D := D) (a := a) (by decide) (fun _ h => h.1) (Nat.le_of_ble_eq_true rfl) ?_
  intro p e s m args below meth c ls R Q hRf hRl C hl hB
  obtain ⟨hB, ret⟩ := hB
  have hM : HM D a mo μ s.heap s.heap [] := ⟨hB.2, va_S.rf⟩
  have hl : lv_has ls 1 [(0, .ref mo)] := hl
  have hx := C.1.1
  have hb := C.1.2.1
  have hts := C.1.2.2.2.2
  have hown := C.1.2.2.2.1
  have hf : (f_X11_thrown μ) = (f_X11_thrown μ) := rfl
  refine lv_aload_n hx hb dX11_thrown_0 rfl (lv_at hl 0 rfl) ?_
  refine mg_thrown C hM dX11_thrown_1 ?_
  exact ret _ _ _ dX11_thrown_4 hf
def f_X11_isIn (p1 : Int32) (p2 : Int32) (p3 : Int32) : Int32 := (if p1 < p2 then 0 else (if p3 < p1 then 0 else 1))
set_option maxHeartbeats 4000000 in
set_option maxRecDepth 100000 in
theorem k_X11_isIn (l : Launch) (D : va_G) (a : Nat → ClassId) (p1 : Int32) (p2 : Int32) (p3 : Int32) : K0 l yX11_isIn cX11_isIn 3 ((some .boolean)) 0 0 [.int p1, .int p2, .int p3] (BK D a) (.int (f_X11_isIn p1 p2 p3)) := by
  refine go0z (D := D) (a := a) (by decide) (fun _ h => h) (Nat.le_of_ble_eq_true rfl) ?_
  intro p e s m args below meth c ls R Q hRf hRl C hl hB
  obtain ⟨-, ret⟩ := hB
  have hl : lv_has ls 3 [(0, .int p1), (1, .int p2), (2, .int p3)] := hl
  have hx := C.1.1
  have hb := C.1.2.1
  have hts := C.1.2.2.2.2
  have hown := C.1.2.2.2.1
  have hf : (f_X11_isIn p1 p2 p3) = (f_X11_isIn p1 p2 p3) := rfl
  refine lv_iload_n hx hb dX11_isIn_0 rfl (lv_at hl 0 rfl) ?_
  refine lv_iload_n hx hb dX11_isIn_1 rfl (lv_at hl 1 rfl) ?_
  refine lv_icmp_lt (tgt := 14) hx hb dX11_isIn_2 (by decide) (fun c_1 => ?_) (fun c_1 => ?_)
  · have hf := hf.trans (if_pos c_1)
    refine lv_iconst (v := 0) hx hb dX11_isIn_14 (by decide) ?_
    exact ret _ _ _ dX11_isIn_15 (by unfold zb; decide) hf
  · have hf := hf.trans (if_neg c_1)
    refine lv_iload_n hx hb dX11_isIn_5 rfl (lv_at hl 0 rfl) ?_
    refine lv_iload_n hx hb dX11_isIn_6 rfl (lv_at hl 2 rfl) ?_
    refine lv_icmp_gt (tgt := 14) hx hb dX11_isIn_7 (by decide) (fun c_2 => ?_) (fun c_2 => ?_)
    · have hf := hf.trans (if_pos c_2)
      refine lv_iconst (v := 0) hx hb dX11_isIn_14 (by decide) ?_
      exact ret _ _ _ dX11_isIn_15 (by unfold zb; decide) hf
    · have hf := hf.trans (if_neg c_2)
      refine lv_iconst (v := 1) hx hb dX11_isIn_10 (by decide) ?_
      refine lv_goto (tgt := 15) hx hb dX11_isIn_11 (by decide) ?_
      exact ret _ _ _ dX11_isIn_15 (by unfold zb; decide) hf
def f_X11_isCamera (μ : MS) (p1 : Int32) : Int32 := (f_X11_isIn p1 0 ((mi μ 1 0) - 1))
def of_X11_isCamera (μ : MS) (p1 : Int32) : Prop := (zb (f_X11_isIn p1 0 ((mi μ 1 0) - 1)) ∧ True)
set_option maxHeartbeats 4000000 in
set_option maxRecDepth 100000 in
theorem k_X11_isCamera (l : Launch) (D : va_G) (a : Nat → ClassId) (mo : Nat) (μ : MS) (p1 : Int32) (hok : of_X11_isCamera μ p1) : K0 l yX11_isCamera cX11_isCamera 2 ((some .boolean)) 1 22 (.ref mo :: [.int p1]) (BM D a mo μ) (.int (f_X11_isCamera μ p1)) := by
  refine go0z (D := D) (a := a) (by decide) (fun _ h => h.1) (Nat.le_of_ble_eq_true rfl) ?_
  intro p e s m args below meth c ls R Q hRf hRl C hl hB
  obtain ⟨hB, ret⟩ := hB
  have hM : HM D a mo μ s.heap s.heap [] := ⟨hB.2, va_S.rf⟩
  have hl : lv_has ls 2 [(0, .ref mo), (1, .int p1)] := hl
  have hx := C.1.1
  have hb := C.1.2.1
  have hts := C.1.2.2.2.2
  have hown := C.1.2.2.2.1
  have hf : (f_X11_isCamera μ p1) = (f_X11_isCamera μ p1) := rfl
  refine lv_iload_n hx hb dX11_isCamera_0 rfl (lv_at hl 1 rfl) ?_
  refine lv_iconst (v := 0) hx hb dX11_isCamera_1 (by decide) ?_
  refine lv_aload_n hx hb dX11_isCamera_2 rfl (lv_at hl 0 rfl) ?_
  refine mg_cameras C hM dX11_isCamera_3 ?_
  refine lv_iconst (v := 1) hx hb dX11_isCamera_6 (by decide) ?_
  refine lv_isub hx hb dX11_isCamera_7 ?_
  refine callS (av := [.int p1, .int 0, .int ((mi μ 1 0) - 1)]) C (k_X11_isIn l D a p1 0 ((mi μ 1 0) - 1) ) cw_X11_158 (okR_of hRf hRl (Nat.le_of_ble_eq_true rfl) (Nat.le_of_ble_eq_true rfl)) rfl rfl hl.1 (Nat.le_of_ble_eq_true rfl) (Nat.zero_le _) (Nat.zero_le _) dX11_isCamera_8 ?_
  have ok_1 := And.left hok
  have hok := And.right hok
  exact ret _ _ _ dX11_isCamera_11 ok_1 hf
def f_X11_camera_62 (p1 : Int32) (p2 : Int32) (p3 : Int32) (t0_62 : Int32) (μ_62 : MS) : Int32 × MS := (if t0_62 ≤ 0 then ((((mi μ_62 1 0) + 1) - 1), (mI (mI (mI (mI (mI μ_62 0 0 t0_62) 2 (ix (mi μ_62 1 0)) p1) 3 (ix (mi μ_62 1 0)) p2) 4 (ix (mi μ_62 1 0)) p3) 1 0 ((mi μ_62 1 0) + 1))) else (0, (mI μ_62 0 0 t0_62)))
def of_X11_camera_62 (p1 : Int32) (p2 : Int32) (p3 : Int32) (t0_62 : Int32) (μ_62 : MS) : Prop := (if t0_62 ≤ 0 then (vp_in (mi μ_62 1 0) 10 ∧ (vp_in (mi μ_62 1 0) 10 ∧ (vp_in (mi μ_62 1 0) 10 ∧ True))) else True)
def f_X11_camera_36 (p1 : Int32) (p2 : Int32) (p3 : Int32) (t0_36 : Int32) (μ_36 : MS) : Int32 × MS := (if t0_36 = 0 then (f_X11_camera_62 p1 p2 p3 1 μ_36) else (if (mi μ_36 1 0) = 10 then (f_X11_camera_62 p1 p2 p3 2 μ_36) else (f_X11_camera_62 p1 p2 p3 0 μ_36)))
def of_X11_camera_36 (p1 : Int32) (p2 : Int32) (p3 : Int32) (t0_36 : Int32) (μ_36 : MS) : Prop := (if t0_36 = 0 then (of_X11_camera_62 p1 p2 p3 1 μ_36) else (if (mi μ_36 1 0) = 10 then (of_X11_camera_62 p1 p2 p3 2 μ_36) else (of_X11_camera_62 p1 p2 p3 0 μ_36)))
def f_X11_camera (μ : MS) (p1 : Int32) (p2 : Int32) (p3 : Int32) : Int32 × MS := (if (f_X11_isIn p1 0 99) = 0 then (f_X11_camera_36 p1 p2 p3 0 μ) else (if (f_X11_isIn p2 0 99) = 0 then (f_X11_camera_36 p1 p2 p3 0 μ) else (if (f_X11_isIn p3 (-99) 99) = 0 then (f_X11_camera_36 p1 p2 p3 0 μ) else (f_X11_camera_36 p1 p2 p3 1 μ))))
def of_X11_camera (μ : MS) (p1 : Int32) (p2 : Int32) (p3 : Int32) : Prop := (if (f_X11_isIn p1 0 99) = 0 then (of_X11_camera_36 p1 p2 p3 0 μ) else (if (f_X11_isIn p2 0 99) = 0 then (of_X11_camera_36 p1 p2 p3 0 μ) else (if (f_X11_isIn p3 (-99) 99) = 0 then (of_X11_camera_36 p1 p2 p3 0 μ) else (of_X11_camera_36 p1 p2 p3 1 μ))))
set_option maxHeartbeats 4000000 in
set_option maxRecDepth 100000 in
theorem k_X11_camera (l : Launch) (D : va_G) (a : Nat → ClassId) (mo : Nat) (μ : MS) (p1 : Int32) (p2 : Int32) (p3 : Int32) (hok : of_X11_camera μ p1 p2 p3) : KM l D a mo yX11_camera cX11_camera 5 ((some .int)) 1 22 [.int p1, .int p2, .int p3] μ (some (.int (f_X11_camera μ p1 p2 p3).1)) (f_X11_camera μ p1 p2 p3).2 := by
  refine goMi (by decide) (Nat.le_of_ble_eq_true rfl) ?_
  intro p e s m args below meth c ls R Q hRf hRl C hl hB
  obtain ⟨hM, ret⟩ := hB
  have hl : lv_has ls 5 [(0, .ref mo), (1, .int p1), (2, .int p2), (3, .int p3)] := hl
  have hx := C.1.1
  have hb := C.1.2.1
  have hts := C.1.2.2.2.2
  have hown := C.1.2.2.2.1
  have hf : (f_X11_camera μ p1 p2 p3) = (f_X11_camera μ p1 p2 p3) := rfl
  obtain ⟨H, hH⟩ : ∃ H, H = s.heap := ⟨_, rfl⟩
  obtain ⟨locs, hLo⟩ : ∃ locs : List Loc, locs = [] := ⟨_, rfl⟩
  have hM : HM D a mo μ s.heap H locs := by rw [hH, hLo]; exact hM
  suffices hgo : W p l e R s m args below meth c H locs 0 0 Q (F0 m 0 ls []) by rw [hH, hLo] at hgo; exact hgo
  clear hH hLo
  have J_62 : ∀ (t0_62 : Int32) (μ_62 : MS), (f_X11_camera μ p1 p2 p3) = f_X11_camera_62 p1 p2 p3 t0_62 μ_62 → of_X11_camera_62 p1 p2 p3 t0_62 μ_62 → ∀ (H : Heap) (locs : List Loc) (ls : Array Slot), HM D a mo μ_62 s.heap H locs → lv_has ls 5 [(0, .ref mo), (1, .int p1), (2, .int p2), (3, .int p3)] → W p l e R s m args below meth c H locs 0 0 Q (F0 m 62 ls [.int t0_62, .ref mo]) := by
    intro t0_62 μ_62 hf hok H locs ls hM hl
    refine mp_thrown C hM dX11_camera_62 (fun H locs hM => ?_)
    refine lv_aload_n hx hb dX11_camera_65 rfl (lv_at hl 0 rfl) ?_
    refine mg_thrown C hM dX11_camera_66 ?_
    refine lv_if_le (tgt := 74) hx hb dX11_camera_69 (by decide) (fun c_4 => ?_) (fun c_4 => ?_)
    · have hf := hf.trans (if_pos c_4)
      have hok := ok_pos hok c_4
      refine lv_aload_n hx hb dX11_camera_74 rfl (lv_at hl 0 rfl) ?_
      refine mg_cameraX C hM dX11_camera_75 ?_
      refine lv_aload_n hx hb dX11_camera_78 rfl (lv_at hl 0 rfl) ?_
      refine mg_cameras C hM dX11_camera_79 ?_
      refine lv_iload_n hx hb dX11_camera_82 rfl (lv_at hl 1 rfl) ?_
      have ok_5 := And.left hok
      have hok := And.right hok
      refine ms_cameraX C hM ok_5 dX11_camera_83 (fun H locs hM => ?_)
      refine lv_aload_n hx hb dX11_camera_84 rfl (lv_at hl 0 rfl) ?_
      refine mg_cameraY C hM dX11_camera_85 ?_
      refine lv_aload_n hx hb dX11_camera_88 rfl (lv_at hl 0 rfl) ?_
      refine mg_cameras C hM dX11_camera_89 ?_
      refine lv_iload_n hx hb dX11_camera_92 rfl (lv_at hl 2 rfl) ?_
      have ok_6 := And.left hok
      have hok := And.right hok
      refine ms_cameraY C hM ok_6 dX11_camera_93 (fun H locs hM => ?_)
      refine lv_aload_n hx hb dX11_camera_94 rfl (lv_at hl 0 rfl) ?_
      refine mg_wrongs C hM dX11_camera_95 ?_
      refine lv_aload_n hx hb dX11_camera_98 rfl (lv_at hl 0 rfl) ?_
      refine mg_cameras C hM dX11_camera_99 ?_
      refine lv_iload_n hx hb dX11_camera_102 rfl (lv_at hl 3 rfl) ?_
      have ok_7 := And.left hok
      have hok := And.right hok
      refine ms_wrongs C hM ok_7 dX11_camera_103 (fun H locs hM => ?_)
      refine lv_aload_n hx hb dX11_camera_104 rfl (lv_at hl 0 rfl) ?_
      refine lv_dup hx hb dX11_camera_105 rfl ?_
      refine mg_cameras C hM dX11_camera_106 ?_
      refine lv_iconst (v := 1) hx hb dX11_camera_109 (by decide) ?_
      refine lv_iadd hx hb dX11_camera_110 ?_
      refine mp_cameras C hM dX11_camera_111 (fun H locs hM => ?_)
      refine lv_aload_n hx hb dX11_camera_114 rfl (lv_at hl 0 rfl) ?_
      refine mg_cameras C hM dX11_camera_115 ?_
      refine lv_iconst (v := 1) hx hb dX11_camera_118 (by decide) ?_
      refine lv_isub hx hb dX11_camera_119 ?_
      exact ret _ _ _ _ _ _ hM dX11_camera_120 hf
    · have hf := hf.trans (if_neg c_4)
      have hok := ok_neg hok c_4
      refine lv_iconst (v := 0) hx hb dX11_camera_72 (by decide) ?_
      exact ret _ _ _ _ _ _ hM dX11_camera_73 hf
  have J_36 : ∀ (t0_36 : Int32) (μ_36 : MS), (f_X11_camera μ p1 p2 p3) = f_X11_camera_36 p1 p2 p3 t0_36 μ_36 → of_X11_camera_36 p1 p2 p3 t0_36 μ_36 → ∀ (H : Heap) (locs : List Loc) (ls : Array Slot), HM D a mo μ_36 s.heap H locs → lv_has ls 5 [(0, .ref mo), (1, .int p1), (2, .int p2), (3, .int p3)] → W p l e R s m args below meth c H locs 0 0 Q (F0 m 36 ls [.int t0_36]) := by
    intro t0_36 μ_36 hf hok H locs ls hM hl
    refine lv_istore (lv' := [(4, .int t0_36), (0, .ref mo), (1, .int p1), (2, .int p2), (3, .int p3)]) hx hb dX11_camera_36 hl (by decide) rfl (fun ls hl => ?_)
    refine lv_aload_n hx hb dX11_camera_38 rfl (lv_at hl 1 rfl) ?_
    refine lv_iload hx hb dX11_camera_39 (lv_at hl 0 rfl) ?_
    refine lv_if_ne (tgt := 48) hx hb dX11_camera_41 (by decide) (fun c_2 => ?_) (fun c_2 => ?_)
    · have hf := hf.trans (if_neg c_2)
      have hok := ok_neg hok c_2
      refine lv_aload_n hx hb dX11_camera_48 rfl (lv_at hl 1 rfl) ?_
      refine mg_cameras C hM dX11_camera_49 ?_
      refine lv_bipush (v := 10) hx hb dX11_camera_52 (by decide) ?_
      refine lv_icmp_ne (tgt := 61) hx hb dX11_camera_54 (by decide) (fun c_3 => ?_) (fun c_3 => ?_)
      · have hf := hf.trans (if_neg c_3)
        have hok := ok_neg hok c_3
        refine lv_iconst (v := 0) hx hb dX11_camera_61 (by decide) ?_
        exact J_62 0 μ_36 hf hok H locs ls hM (lv_sub hl [1, 2, 3, 4] rfl)
      · have hf := hf.trans (if_pos c_3)
        have hok := ok_pos hok c_3
        refine lv_iconst (v := 2) hx hb dX11_camera_57 (by decide) ?_
        refine lv_goto (tgt := 62) hx hb dX11_camera_58 (by decide) ?_
        exact J_62 2 μ_36 hf hok H locs ls hM (lv_sub hl [1, 2, 3, 4] rfl)
    · have hf := hf.trans (if_pos c_2)
      have hok := ok_pos hok c_2
      refine lv_iconst (v := 1) hx hb dX11_camera_44 (by decide) ?_
      refine lv_goto (tgt := 62) hx hb dX11_camera_45 (by decide) ?_
      exact J_62 1 μ_36 hf hok H locs ls hM (lv_sub hl [1, 2, 3, 4] rfl)
  refine lv_iload_n hx hb dX11_camera_0 rfl (lv_at hl 1 rfl) ?_
  refine lv_iconst (v := 0) hx hb dX11_camera_1 (by decide) ?_
  refine lv_bipush (v := 99) hx hb dX11_camera_2 (by decide) ?_
  refine callS (av := [.int p1, .int 0, .int 99]) C (k_X11_isIn l D a p1 0 99 ) cw_X11_158 (okR_of hRf hRl (Nat.le_of_ble_eq_true rfl) (Nat.le_of_ble_eq_true rfl)) rfl rfl hl.1 (Nat.le_of_ble_eq_true rfl) (Nat.zero_le _) (Nat.zero_le _) dX11_camera_4 ?_
  refine lv_if_eq (tgt := 35) hx hb dX11_camera_7 (by decide) (fun c_1 => ?_) (fun c_1 => ?_)
  · have hf := hf.trans (if_pos c_1)
    have hok := ok_pos hok c_1
    refine lv_iconst (v := 0) hx hb dX11_camera_35 (by decide) ?_
    exact J_36 0 μ hf hok H locs ls hM (lv_sub hl [0, 1, 2, 3] rfl)
  · have hf := hf.trans (if_neg c_1)
    have hok := ok_neg hok c_1
    refine lv_iload_n hx hb dX11_camera_10 rfl (lv_at hl 2 rfl) ?_
    refine lv_iconst (v := 0) hx hb dX11_camera_11 (by decide) ?_
    refine lv_bipush (v := 99) hx hb dX11_camera_12 (by decide) ?_
    refine callS (av := [.int p2, .int 0, .int 99]) C (k_X11_isIn l D a p2 0 99 ) cw_X11_158 (okR_of hRf hRl (Nat.le_of_ble_eq_true rfl) (Nat.le_of_ble_eq_true rfl)) rfl rfl hl.1 (Nat.le_of_ble_eq_true rfl) (Nat.zero_le _) (Nat.zero_le _) dX11_camera_14 ?_
    refine lv_if_eq (tgt := 35) hx hb dX11_camera_17 (by decide) (fun c_8 => ?_) (fun c_8 => ?_)
    · have hf := hf.trans (if_pos c_8)
      have hok := ok_pos hok c_8
      refine lv_iconst (v := 0) hx hb dX11_camera_35 (by decide) ?_
      exact J_36 0 μ hf hok H locs ls hM (lv_sub hl [0, 1, 2, 3] rfl)
    · have hf := hf.trans (if_neg c_8)
      have hok := ok_neg hok c_8
      refine lv_iload_n hx hb dX11_camera_20 rfl (lv_at hl 3 rfl) ?_
      refine lv_bipush (v := (-99)) hx hb dX11_camera_21 (by decide) ?_
      refine lv_bipush (v := 99) hx hb dX11_camera_23 (by decide) ?_
      refine callS (av := [.int p3, .int (-99), .int 99]) C (k_X11_isIn l D a p3 (-99) 99 ) cw_X11_158 (okR_of hRf hRl (Nat.le_of_ble_eq_true rfl) (Nat.le_of_ble_eq_true rfl)) rfl rfl hl.1 (Nat.le_of_ble_eq_true rfl) (Nat.zero_le _) (Nat.zero_le _) dX11_camera_25 ?_
      refine lv_if_eq (tgt := 35) hx hb dX11_camera_28 (by decide) (fun c_9 => ?_) (fun c_9 => ?_)
      · have hf := hf.trans (if_pos c_9)
        have hok := ok_pos hok c_9
        refine lv_iconst (v := 0) hx hb dX11_camera_35 (by decide) ?_
        exact J_36 0 μ hf hok H locs ls hM (lv_sub hl [0, 1, 2, 3] rfl)
      · have hf := hf.trans (if_neg c_9)
        have hok := ok_neg hok c_9
        refine lv_iconst (v := 1) hx hb dX11_camera_31 (by decide) ?_
        refine lv_goto (tgt := 36) hx hb dX11_camera_32 (by decide) ?_
        exact J_36 1 μ hf hok H locs ls hM (lv_sub hl [0, 1, 2, 3] rfl)
def f_X11_isCloudy_l5_45 (p1 : Int32) (p2 : Int32) (μ : MS) (w3_5 : Int32) (w4_5 : Int32) (v4_45 : Int32) (t0_45 : Int32) : Bool × (Int32 × Int32) := (true, (t0_45, (v4_45 + 1)))
def b_X11_isCloudy_5 (p1 : Int32) (p2 : Int32) (μ : MS) (w3_5 : Int32) (w4_5 : Int32) : Bool × (Int32 × Int32) := (if (mi μ 5 0) ≤ w4_5 then (false, (w3_5, w4_5)) else (if w3_5 = 0 then (if (mi μ 6 (ix w4_5)) = p1 then (if (mi μ 7 (ix w4_5)) = p2 then (f_X11_isCloudy_l5_45 p1 p2 μ w3_5 w4_5 w4_5 1) else (f_X11_isCloudy_l5_45 p1 p2 μ w3_5 w4_5 w4_5 0)) else (f_X11_isCloudy_l5_45 p1 p2 μ w3_5 w4_5 w4_5 0)) else (f_X11_isCloudy_l5_45 p1 p2 μ w3_5 w4_5 w4_5 1)))
def ob_X11_isCloudy_5 (p1 : Int32) (p2 : Int32) (μ : MS) (w3_5 : Int32) (w4_5 : Int32) : Prop := (if (mi μ 5 0) ≤ w4_5 then True else (if w3_5 = 0 then (vp_in w4_5 50 ∧ (if (mi μ 6 (ix w4_5)) = p1 then (vp_in w4_5 50 ∧ True) else True)) else True))
def s_X11_isCloudy_5 (p1 : Int32) (p2 : Int32) (μ : MS) (v : Int32 × Int32) : Bool × (Int32 × Int32) := b_X11_isCloudy_5 p1 p2 μ v.1 v.2
def os_X11_isCloudy_5 (p1 : Int32) (p2 : Int32) (μ : MS) (v : Int32 × Int32) : Prop := ob_X11_isCloudy_5 p1 p2 μ v.1 v.2
def f_X11_isCloudy_52 (μ : MS) (p1 : Int32) (p2 : Int32) (v3_52 : Int32) : Int32 := v3_52
def of_X11_isCloudy_52 (μ : MS) (p1 : Int32) (p2 : Int32) (v3_52 : Int32) : Prop := (zb v3_52 ∧ True)
def f_X11_isCloudy_5 (μ : MS) (p1 : Int32) (p2 : Int32) (v3_5 : Int32) (v4_5 : Int32) : Int32 := (f_X11_isCloudy_52 μ p1 p2 ((itr (s_X11_isCloudy_5 p1 p2 μ) FU (v3_5, v4_5)).1))
def of_X11_isCloudy_5 (μ : MS) (p1 : Int32) (p2 : Int32) (v3_5 : Int32) (v4_5 : Int32) : Prop := (ito (s_X11_isCloudy_5 p1 p2 μ) (os_X11_isCloudy_5 p1 p2 μ) FU (v3_5, v4_5) ∧ (of_X11_isCloudy_52 μ p1 p2 ((itr (s_X11_isCloudy_5 p1 p2 μ) FU (v3_5, v4_5)).1)))
def f_X11_isCloudy (μ : MS) (p1 : Int32) (p2 : Int32) : Int32 := (f_X11_isCloudy_5 μ p1 p2 0 0)
def of_X11_isCloudy (μ : MS) (p1 : Int32) (p2 : Int32) : Prop := (of_X11_isCloudy_5 μ p1 p2 0 0)
set_option maxHeartbeats 4000000 in
set_option maxRecDepth 100000 in
theorem k_X11_isCloudy (l : Launch) (D : va_G) (a : Nat → ClassId) (mo : Nat) (μ : MS) (p1 : Int32) (p2 : Int32) (hok : of_X11_isCloudy μ p1 p2) : K0 l yX11_isCloudy cX11_isCloudy 5 ((some .boolean)) 0 0 (.ref mo :: [.int p1, .int p2]) (BM D a mo μ) (.int (f_X11_isCloudy μ p1 p2)) := by
  refine go0z (D := D) (a := a) (by decide) (fun _ h => h.1) (Nat.le_of_ble_eq_true rfl) ?_
  intro p e s m args below meth c ls R Q hRf hRl C hl hB
  obtain ⟨hB, ret⟩ := hB
  have hM : HM D a mo μ s.heap s.heap [] := ⟨hB.2, va_S.rf⟩
  have hl : lv_has ls 5 [(0, .ref mo), (1, .int p1), (2, .int p2)] := hl
  have hx := C.1.1
  have hb := C.1.2.1
  have hts := C.1.2.2.2.2
  have hown := C.1.2.2.2.1
  have hf : (f_X11_isCloudy μ p1 p2) = (f_X11_isCloudy μ p1 p2) := rfl
  have J_52 : ∀ (v3_52 : Int32), (f_X11_isCloudy μ p1 p2) = f_X11_isCloudy_52 μ p1 p2 v3_52 → of_X11_isCloudy_52 μ p1 p2 v3_52 → ∀ (ls : Array Slot), lv_has ls 5 [(3, .int v3_52)] → W p l e R s m args below meth c s.heap [] 0 0 Q (F0 m 52 ls []) := by
    intro v3_52 hf hok ls hl
    refine lv_iload_n hx hb dX11_isCloudy_52 rfl (lv_at hl 0 rfl) ?_
    have ok_7 := And.left hok
    have hok := And.right hok
    exact ret _ _ _ dX11_isCloudy_53 ok_7 hf
  have J_5 : ∀ (v3_5 : Int32) (v4_5 : Int32), (f_X11_isCloudy μ p1 p2) = f_X11_isCloudy_5 μ p1 p2 v3_5 v4_5 → of_X11_isCloudy_5 μ p1 p2 v3_5 v4_5 → ∀ (ls : Array Slot), lv_has ls 5 [(0, .ref mo), (1, .int p1), (2, .int p2), (3, .int v3_5), (4, .int v4_5)] → W p l e R s m args below meth c s.heap [] 0 0 Q (F0 m 5 ls []) := by
    intro v3_5 v4_5 hf hok ls hl
    refine itr_W (f := (s_X11_isCloudy_5 p1 p2 μ)) (o := (os_X11_isCloudy_5 p1 p2 μ)) (fun (v : Int32 × Int32) => ∀ (ls : Array Slot), lv_has ls 5 [(0, .ref mo), (1, .int p1), (2, .int p2), (3, .int v.1), (4, .int v.2)] → W p l e R s m args below meth c s.heap [] 0 0 Q (F0 m 5 ls [])) (fun (v : Int32 × Int32) => ∀ (ls : Array Slot), lv_has ls 5 [(3, .int v.1)] → W p l e R s m args below meth c s.heap [] 0 0 Q (F0 m 52 ls [])) ?_ FU (v3_5, v4_5) (And.left hok) ?_ ls (lv_sub hl [0, 1, 2, 3, 4] rfl)
    · intro v hov kc ke
      obtain ⟨w3_5, w4_5⟩ := v
      have hf : (s_X11_isCloudy_5 p1 p2 μ) (w3_5, w4_5) = (b_X11_isCloudy_5 p1 p2 μ w3_5 w4_5) := rfl
      have hok : ob_X11_isCloudy_5 p1 p2 μ w3_5 w4_5 := hov
      change ∀ v', (b_X11_isCloudy_5 p1 p2 μ w3_5 w4_5) = (true, v') → _ at kc
      change ∀ v', (b_X11_isCloudy_5 p1 p2 μ w3_5 w4_5) = (false, v') → _ at ke
      have hf : (b_X11_isCloudy_5 p1 p2 μ w3_5 w4_5) = (b_X11_isCloudy_5 p1 p2 μ w3_5 w4_5) := rfl
      intro ls hl
      have J_l5_45 : ∀ (v4_45 : Int32) (t0_45 : Int32), (b_X11_isCloudy_5 p1 p2 μ w3_5 w4_5) = f_X11_isCloudy_l5_45 p1 p2 μ w3_5 w4_5 v4_45 t0_45 → ∀ (ls : Array Slot), lv_has ls 5 [(0, .ref mo), (1, .int p1), (2, .int p2), (4, .int v4_45)] → W p l e R s m args below meth c s.heap [] 0 0 Q (F0 m 45 ls [.int t0_45]) := by
        intro v4_45 t0_45 hf ls hl
        refine lv_istore_n (lv' := [(3, .int t0_45), (0, .ref mo), (1, .int p1), (2, .int p2), (4, .int v4_45)]) hx hb dX11_isCloudy_45 rfl hl (by decide) rfl (fun ls hl => ?_)
        refine lv_iinc (v := (v4_45 + 1)) (lv' := [(4, .int (v4_45 + 1)), (3, .int t0_45), (0, .ref mo), (1, .int p1), (2, .int p2)]) hx hb dX11_isCloudy_46 hl (k := 4) rfl rfl (by decide) rfl (fun ls hl => ?_)
        refine lv_goto (tgt := 5) hx hb dX11_isCloudy_49 (by decide) ?_
        exact kc (t0_45, (v4_45 + 1)) hf ls (lv_sub hl [2, 3, 4, 1, 0] rfl)
      refine lv_iload hx hb dX11_isCloudy_5 (lv_at hl 4 rfl) ?_
      refine lv_aload_n hx hb dX11_isCloudy_7 rfl (lv_at hl 0 rfl) ?_
      refine mg_clouds C hM dX11_isCloudy_8 ?_
      refine lv_icmp_ge (tgt := 52) hx hb dX11_isCloudy_11 (by decide) (fun c_1 => ?_) (fun c_1 => ?_)
      · have hf := hf.trans (if_pos c_1)
        have hok := ok_pos hok c_1
        exact ke (w3_5, w4_5) hf ls (lv_sub hl [3] rfl)
      · have hf := hf.trans (if_neg c_1)
        have hok := ok_neg hok c_1
        refine lv_iload_n hx hb dX11_isCloudy_14 rfl (lv_at hl 3 rfl) ?_
        refine lv_if_ne (tgt := 40) hx hb dX11_isCloudy_15 (by decide) (fun c_2 => ?_) (fun c_2 => ?_)
        · have hf := hf.trans (if_neg c_2)
          have hok := ok_neg hok c_2
          refine lv_iconst (v := 1) hx hb dX11_isCloudy_40 (by decide) ?_
          refine lv_goto (tgt := 45) hx hb dX11_isCloudy_41 (by decide) ?_
          exact J_l5_45 w4_5 1 hf ls (lv_sub hl [0, 1, 2, 4] rfl)
        · have hf := hf.trans (if_pos c_2)
          have hok := ok_pos hok c_2
          refine lv_aload_n hx hb dX11_isCloudy_18 rfl (lv_at hl 0 rfl) ?_
          refine mg_cloudCameras C hM dX11_isCloudy_19 ?_
          refine lv_iload hx hb dX11_isCloudy_22 (lv_at hl 4 rfl) ?_
          have ok_3 := And.left hok
          have hok := And.right hok
          refine ma_cloudCameras C hM ok_3 dX11_isCloudy_24 ?_
          refine lv_iload_n hx hb dX11_isCloudy_25 rfl (lv_at hl 1 rfl) ?_
          refine lv_icmp_ne (tgt := 44) hx hb dX11_isCloudy_26 (by decide) (fun c_4 => ?_) (fun c_4 => ?_)
          · have hf := hf.trans (if_neg c_4)
            have hok := ok_neg hok c_4
            refine lv_iconst (v := 0) hx hb dX11_isCloudy_44 (by decide) ?_
            exact J_l5_45 w4_5 0 hf ls (lv_sub hl [0, 1, 2, 4] rfl)
          · have hf := hf.trans (if_pos c_4)
            have hok := ok_pos hok c_4
            refine lv_aload_n hx hb dX11_isCloudy_29 rfl (lv_at hl 0 rfl) ?_
            refine mg_cloudNights C hM dX11_isCloudy_30 ?_
            refine lv_iload hx hb dX11_isCloudy_33 (lv_at hl 4 rfl) ?_
            have ok_5 := And.left hok
            have hok := And.right hok
            refine ma_cloudNights C hM ok_5 dX11_isCloudy_35 ?_
            refine lv_iload_n hx hb dX11_isCloudy_36 rfl (lv_at hl 2 rfl) ?_
            refine lv_icmp_ne (tgt := 44) hx hb dX11_isCloudy_37 (by decide) (fun c_6 => ?_) (fun c_6 => ?_)
            · have hf := hf.trans (if_neg c_6)
              refine lv_iconst (v := 0) hx hb dX11_isCloudy_44 (by decide) ?_
              exact J_l5_45 w4_5 0 hf ls (lv_sub hl [0, 1, 2, 4] rfl)
            · have hf := hf.trans (if_pos c_6)
              refine lv_iconst (v := 1) hx hb dX11_isCloudy_40 (by decide) ?_
              refine lv_goto (tgt := 45) hx hb dX11_isCloudy_41 (by decide) ?_
              exact J_l5_45 w4_5 1 hf ls (lv_sub hl [0, 1, 2, 4] rfl)
    · have hok := And.right hok
      intro ls hl
      exact J_52 ((itr (s_X11_isCloudy_5 p1 p2 μ) FU (v3_5, v4_5)).1) hf hok ls (lv_sub hl [0] rfl)
  refine lv_iconst (v := 0) hx hb dX11_isCloudy_0 (by decide) ?_
  refine lv_istore_n (lv' := [(3, .int 0), (0, .ref mo), (1, .int p1), (2, .int p2)]) hx hb dX11_isCloudy_1 rfl hl (by decide) rfl (fun ls hl => ?_)
  refine lv_iconst (v := 0) hx hb dX11_isCloudy_2 (by decide) ?_
  refine lv_istore (lv' := [(4, .int 0), (3, .int 0), (0, .ref mo), (1, .int p1), (2, .int p2)]) hx hb dX11_isCloudy_3 hl (by decide) rfl (fun ls hl => ?_)
  exact J_5 0 0 hf hok ls (lv_sub hl [2, 3, 4, 1, 0] rfl)
