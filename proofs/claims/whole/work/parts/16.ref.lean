/-! ===== the reference's methods ===== -/
theorem cw_X11_158 : CWS RX11 158 yX11_isIn cX11_isIn 3 ((some .boolean)) 3 := ⟨q_1388, q_1389, q_62, q_1390, ⟨by decide +kernel, by decide +kernel, by decide +kernel⟩⟩
theorem cw_X11_165 : CWV RX11 RX11 165 yX11_isCamera cX11_isCamera 2 ((some .boolean)) 1 := ⟨q_1395, q_1397, q_29, q_62, q_1398, rfl, ⟨by decide +kernel, by decide +kernel, by decide +kernel⟩⟩
theorem cw_X11_172 : CWV RX11 RX11 172 yX11_isCloudy cX11_isCloudy 5 ((some .boolean)) 2 := ⟨q_1403, q_1405, q_30, q_62, q_1406, rfl, ⟨by decide +kernel, by decide +kernel, by decide +kernel⟩⟩
theorem cw_X11_179 : CWS RX11 179 yX11_isNight cX11_isNight 1 ((some .boolean)) 1 := ⟨q_1407, q_1408, q_62, q_1409, ⟨by decide +kernel, by decide +kernel, by decide +kernel⟩⟩
theorem cw_X11_195 : CWS RX11 195 yX11_isDirection cX11_isDirection 2 ((some .boolean)) 2 := ⟨q_1419, q_1420, q_62, q_1421, ⟨by decide +kernel, by decide +kernel, by decide +kernel⟩⟩
theorem cw_X11_202 : CWS RX11 202 yX11_down cX11_down 4 ((some .long)) 2 := ⟨q_1452, q_1453, q_62, q_1454, ⟨by decide +kernel, by decide +kernel, by decide +kernel⟩⟩
theorem cw_X11_213 : CWV RX11 RX11 213 yX11_cross cX11_cross 17 ((some .boolean)) 6 := ⟨q_1446, q_1448, q_36, q_62, q_1449, rfl, ⟨by decide +kernel, by decide +kernel, by decide +kernel⟩⟩
theorem cw_X11_217 : CWV RX11 RX11 217 yX11_counts cX11_counts 2 ((some .boolean)) 1 := ⟨q_1438, q_1440, q_34, q_62, q_1441, rfl, ⟨by decide +kernel, by decide +kernel, by decide +kernel⟩⟩
theorem cw_X11_220 : CWV RX11 RX11 220 yX11_beginsCross cX11_beginsCross 3 ((some .boolean)) 2 := ⟨q_1442, q_1444, q_35, q_62, q_1445, rfl, ⟨by decide +kernel, by decide +kernel, by decide +kernel⟩⟩
theorem cw_X11_223 : CWV RX11 RX11 223 yX11_endsCross cX11_endsCross 3 ((some .boolean)) 2 := ⟨q_1455, q_1457, q_37, q_62, q_1458, rfl, ⟨by decide +kernel, by decide +kernel, by decide +kernel⟩⟩
theorem cw_X11_226 : CWV RX11 RX11 226 yX11_join cX11_join 5 ((some .boolean)) 2 := ⟨q_1434, q_1436, q_33, q_62, q_1437, rfl, ⟨by decide +kernel, by decide +kernel, by decide +kernel⟩⟩
theorem cw_X11_229 : CWV RX11 RX11 229 yX11_spreads cX11_spreads 5 none 0 := ⟨q_1430, q_1432, q_32, q_62, q_1433, rfl, ⟨by decide +kernel, by decide +kernel, by decide +kernel⟩⟩
theorem cw_X11_232 : CWV RX11 RX11 232 yX11_fireballOf cX11_fireballOf 2 ((some .int)) 1 := ⟨q_1426, q_1428, q_31, q_62, q_1429, rfl, ⟨by decide +kernel, by decide +kernel, by decide +kernel⟩⟩
theorem cw_X11_236 : CWV RX11 RX11 236 yX11_isFireball cX11_isFireball 2 ((some .boolean)) 1 := ⟨q_1467, q_1469, q_38, q_62, q_1470, rfl, ⟨by decide +kernel, by decide +kernel, by decide +kernel⟩⟩
theorem cw_X11_262 : CWS RX11 262 yX11_root cX11_root 8 ((some .long)) 1 := ⟨q_1480, q_1481, q_62, q_1482, ⟨by decide +kernel, by decide +kernel, by decide +kernel⟩⟩
theorem cw_X11_269 : CWV RX11 RX11 269 yX11_measures cX11_measures 10 none 1 := ⟨q_1475, q_1477, q_39, q_62, q_1478, rfl, ⟨by decide +kernel, by decide +kernel, by decide +kernel⟩⟩
theorem cw_X11_279 : CWV RX11 RX11 279 yX11_windOf cX11_windOf 4 ((some .int)) 1 := ⟨q_1499, q_1501, q_40, q_62, q_1502, rfl, ⟨by decide +kernel, by decide +kernel, by decide +kernel⟩⟩
theorem cw_X11_289 : CWV RX11 RX11 289 yX11_falls cX11_falls 5 none 1 := ⟨q_1514, q_1516, q_42, q_62, q_1517, rfl, ⟨by decide +kernel, by decide +kernel, by decide +kernel⟩⟩
theorem cw_X11_292 : CWV RX11 RX11 292 yX11_weight cX11_weight 13 ((some .long)) 3 := ⟨q_1518, q_1520, q_43, q_62, q_1521, rfl, ⟨by decide +kernel, by decide +kernel, by decide +kernel⟩⟩
theorem cw_X11_296 : CWS RX11 296 yX11_isCell cX11_isCell 2 ((some .boolean)) 2 := ⟨q_1507, q_1508, q_62, q_1509, ⟨by decide +kernel, by decide +kernel, by decide +kernel⟩⟩
theorem cw_X11_299 : CWV RX11 RX11 299 yX11_chanceOf cX11_chanceOf 8 ((some .long)) 3 := ⟨q_1510, q_1512, q_41, q_62, q_1513, rfl, ⟨by decide +kernel, by decide +kernel, by decide +kernel⟩⟩
theorem cw_X11_306 : CWS RX11 306 yX11_landOf cX11_landOf 2 ((some .int)) 2 := ⟨q_1533, q_1534, q_62, q_1535, ⟨by decide +kernel, by decide +kernel, by decide +kernel⟩⟩
theorem cw_X11_310 : CWV RX11 RX11 310 yX11_adds cX11_adds 7 ((some .int)) 6 := ⟨q_1536, q_1538, q_44, q_62, q_1539, rfl, ⟨by decide +kernel, by decide +kernel, by decide +kernel⟩⟩
theorem cw_X11_314 : CWV RX11 RX11 314 yX11_isStone cX11_isStone 2 ((some .boolean)) 1 := ⟨q_1544, q_1546, q_45, q_62, q_1547, rfl, ⟨by decide +kernel, by decide +kernel, by decide +kernel⟩⟩
theorem cw_X11_317 : CWV RX11 RX11 317 yX11_fallOf cX11_fallOf 8 ((some .int)) 1 := ⟨q_1548, q_1550, q_46, q_62, q_1551, rfl, ⟨by decide +kernel, by decide +kernel, by decide +kernel⟩⟩
theorem cw_X11_320 : CWV RX11 RX11 320 yX11_classIn cX11_classIn 5 ((some .int)) 2 := ⟨q_1564, q_1566, q_47, q_62, q_1567, rfl, ⟨by decide +kernel, by decide +kernel, by decide +kernel⟩⟩
theorem cw_X11_323 : CWV RX11 RX11 323 yX11_namesake cX11_namesake 3 ((some .int)) 1 := ⟨q_1604, q_1606, q_48, q_62, q_1607, rfl, ⟨by decide +kernel, by decide +kernel, by decide +kernel⟩⟩
theorem cw_X11_326 : CWV RX11 RX11 326 yX11_isCutFrom cX11_isCutFrom 4 ((some .boolean)) 2 := ⟨q_1612, q_1614, q_49, q_62, q_1615, rfl, ⟨by decide +kernel, by decide +kernel, by decide +kernel⟩⟩
def f_X11_thrown (μ : MS) : Int32 := (mi μ 0 0)
set_option maxHeartbeats 4000000 in
set_option maxRecDepth 100000 in
theorem k_X11_thrown (l : Launch) (D : va_G) (a : Nat → ClassId) (mo : Nat) (μ : MS) : K0 l yX11_thrown cX11_thrown 1 ((some .int)) 0 0 [.ref mo] (BM D a mo μ) (.int (f_X11_thrown μ)) := by
  refine go0i (D := D) (a := a) (by decide +kernel) (fun _ h => h.1) (Nat.le_of_ble_eq_true rfl) ?_
  intro p e s m args below meth c ls R Q hRf hRl C hl hB
  obtain ⟨hB, ret⟩ := hB
  have hM : HM D a mo μ s.heap s.heap [] := ⟨hB.2, va_S.rf⟩
  have hl : lv_has ls 1 [(0, .ref mo)] := hl
  have hx := C.1.1
  have hb := C.1.2.1
  have hts := C.1.2.2.2.2
  have hown := C.1.2.2.2.1
  have hf : (f_X11_thrown μ) = (f_X11_thrown μ) := rfl
  refine lv_aload_n hx hb dX11_thrown_0 rfl (lv_at hl 0 rfl) ?_
  refine mg_thrown C hM dX11_thrown_1 ?_
  exact ret _ _ _ dX11_thrown_4 hf
def f_X11_isIn (p1 : Int32) (p2 : Int32) (p3 : Int32) : Int32 := (if p1 < p2 then 0 else (if p3 < p1 then 0 else 1))
set_option maxHeartbeats 4000000 in
set_option maxRecDepth 100000 in
theorem k_X11_isIn (l : Launch) (D : va_G) (a : Nat → ClassId) (p1 : Int32) (p2 : Int32) (p3 : Int32) : K0 l yX11_isIn cX11_isIn 3 ((some .boolean)) 0 0 [.int p1, .int p2, .int p3] (BK D a) (.int (f_X11_isIn p1 p2 p3)) := by
  refine go0z (D := D) (a := a) (by decide +kernel) (fun _ h => h) (Nat.le_of_ble_eq_true rfl) ?_
  intro p e s m args below meth c ls R Q hRf hRl C hl hB
  obtain ⟨-, ret⟩ := hB
  have hl : lv_has ls 3 [(0, .int p1), (1, .int p2), (2, .int p3)] := hl
  have hx := C.1.1
  have hb := C.1.2.1
  have hts := C.1.2.2.2.2
  have hown := C.1.2.2.2.1
  have hf : (f_X11_isIn p1 p2 p3) = (f_X11_isIn p1 p2 p3) := rfl
  refine lv_iload_n hx hb dX11_isIn_0 rfl (lv_at hl 0 rfl) ?_
  refine lv_iload_n hx hb dX11_isIn_1 rfl (lv_at hl 1 rfl) ?_
  refine lv_icmp_lt (tgt := 14) hx hb dX11_isIn_2 (by decide) (fun c_1 => ?_) (fun c_1 => ?_)
  · have hf := hf.trans (if_pos c_1)
    refine lv_iconst (v := 0) hx hb dX11_isIn_14 (by decide) ?_
    exact ret _ _ _ dX11_isIn_15 (by unfold zb; decide) hf
  · have hf := hf.trans (if_neg c_1)
    refine lv_iload_n hx hb dX11_isIn_5 rfl (lv_at hl 0 rfl) ?_
    refine lv_iload_n hx hb dX11_isIn_6 rfl (lv_at hl 2 rfl) ?_
    refine lv_icmp_gt (tgt := 14) hx hb dX11_isIn_7 (by decide) (fun c_2 => ?_) (fun c_2 => ?_)
    · have hf := hf.trans (if_pos c_2)
      refine lv_iconst (v := 0) hx hb dX11_isIn_14 (by decide) ?_
      exact ret _ _ _ dX11_isIn_15 (by unfold zb; decide) hf
    · have hf := hf.trans (if_neg c_2)
      refine lv_iconst (v := 1) hx hb dX11_isIn_10 (by decide) ?_
      refine lv_goto (tgt := 15) hx hb dX11_isIn_11 (by decide) ?_
      exact ret _ _ _ dX11_isIn_15 (by unfold zb; decide) hf
def f_X11_down (p1 : Int64) (p2 : Int64) : Int64 := (if (lg_cmp p1 0) < 0 then (-(((p2 - 1) - p1) / p2)) else (p1 / p2))
def of_X11_down (p1 : Int64) (p2 : Int64) : Prop := (oif ((lg_cmp p1 0) < 0) (¬ p2 = 0 ∧ True) (¬ p2 = 0 ∧ True))
set_option maxHeartbeats 4000000 in
set_option maxRecDepth 100000 in
theorem k_X11_down (l : Launch) (D : va_G) (a : Nat → ClassId) (p1 : Int64) (p2 : Int64) (hok : of_X11_down p1 p2) : K0 l yX11_down cX11_down 4 ((some .long)) 0 0 [.long p1, .long p2] (BK D a) (.long (f_X11_down p1 p2)) := by
  refine go0l (D := D) (a := a) (by decide +kernel) (fun _ h => h) (Nat.le_of_ble_eq_true rfl) ?_
  intro p e s m args below meth c ls R Q hRf hRl C hl hB
  obtain ⟨-, ret⟩ := hB
  have hl : lv_has ls 4 [(0, .long p1), (2, .long p2)] := hl
  have hx := C.1.1
  have hb := C.1.2.1
  have hts := C.1.2.2.2.2
  have hown := C.1.2.2.2.1
  have hf : (f_X11_down p1 p2) = (f_X11_down p1 p2) := rfl
  refine lv_lload_n hx hb dX11_down_0 rfl (lv_at hl 0 rfl) ?_
  refine lv_lconst (v := 0) hx hb dX11_down_1 (by decide) ?_
  refine W.lcmp hx hb dX11_down_2 ?_
  refine lv_if_lt (tgt := 12) hx hb dX11_down_3 (by decide) (fun c_1 => ?_) (fun c_1 => ?_)
  · have hf := hf.trans (if_pos c_1)
    have hok := oif_pos hok c_1
    refine lv_lload_n hx hb dX11_down_12 rfl (lv_at hl 1 rfl) ?_
    refine lv_lconst (v := 1) hx hb dX11_down_13 (by decide) ?_
    refine lv_lsub hx hb dX11_down_14 ?_
    refine lv_lload_n hx hb dX11_down_15 rfl (lv_at hl 0 rfl) ?_
    refine lv_lsub hx hb dX11_down_16 ?_
    refine lv_lload_n hx hb dX11_down_17 rfl (lv_at hl 1 rfl) ?_
    have ok_2 := And.left hok
    have hok := And.right hok
    refine lv_ldiv hx hb dX11_down_18 ok_2 ?_
    refine lv_lneg hx hb dX11_down_19 ?_
    exact ret _ _ _ dX11_down_20 hf
  · have hf := hf.trans (if_neg c_1)
    have hok := oif_neg hok c_1
    refine lv_lload_n hx hb dX11_down_6 rfl (lv_at hl 0 rfl) ?_
    refine lv_lload_n hx hb dX11_down_7 rfl (lv_at hl 1 rfl) ?_
    have ok_3 := And.left hok
    have hok := And.right hok
    refine lv_ldiv hx hb dX11_down_8 ok_3 ?_
    refine lv_goto (tgt := 20) hx hb dX11_down_9 (by decide) ?_
    exact ret _ _ _ dX11_down_20 hf
def b_X11_root_7 (p1 : Int64) (w2_7 : Int64) (w4_7 : Int64) : Bool × (Int64 × Int64) := (if 0 ≤ (lg_cmp w2_7 w4_7) then (false, (w2_7, w4_7)) else (if 0 < (lg_cmp ((((w2_7 + w4_7) + 1) / 2) * (((w2_7 + w4_7) + 1) / 2)) p1) then (true, (w2_7, ((((w2_7 + w4_7) + 1) / 2) - 1))) else (true, ((((w2_7 + w4_7) + 1) / 2), w4_7))))
def ob_X11_root_7 (p1 : Int64) (w2_7 : Int64) (w4_7 : Int64) : Prop := True
def s_X11_root_7 (p1 : Int64) (v : Int64 × Int64) : Bool × (Int64 × Int64) := b_X11_root_7 p1 v.1 v.2
def os_X11_root_7 (p1 : Int64) (v : Int64 × Int64) : Prop := ob_X11_root_7 p1 v.1 v.2
def f_X11_root_51 (p1 : Int64) (v2_51 : Int64) : Int64 := v2_51
def f_X11_root_7 (p1 : Int64) (v2_7 : Int64) (v4_7 : Int64) : Int64 := (f_X11_root_51 p1 ((itr (s_X11_root_7 p1) FU (v2_7, v4_7)).1))
def of_X11_root_7 (p1 : Int64) (v2_7 : Int64) (v4_7 : Int64) : Prop := (ito (s_X11_root_7 p1) (os_X11_root_7 p1) FU (v2_7, v4_7) ∧ True)
def f_X11_root (p1 : Int64) : Int64 := (f_X11_root_7 p1 0 1000000000)
def of_X11_root (p1 : Int64) : Prop := (of_X11_root_7 p1 0 1000000000)
set_option maxHeartbeats 4000000 in
set_option maxRecDepth 100000 in
theorem k_X11_root (l : Launch) (D : va_G) (a : Nat → ClassId) (p1 : Int64) (hok : of_X11_root p1) : K0 l yX11_root cX11_root 8 ((some .long)) 0 0 [.long p1] (BK D a) (.long (f_X11_root p1)) := by
  refine go0l (D := D) (a := a) (by decide +kernel) (fun _ h => h) (Nat.le_of_ble_eq_true rfl) ?_
  intro p e s m args below meth c ls R Q hRf hRl C hl hB
  obtain ⟨-, ret⟩ := hB
  have hl : lv_has ls 8 [(0, .long p1)] := hl
  have hx := C.1.1
  have hb := C.1.2.1
  have hts := C.1.2.2.2.2
  have hown := C.1.2.2.2.1
  have hf : (f_X11_root p1) = (f_X11_root p1) := rfl
  have J_51 : ∀ (v2_51 : Int64), (f_X11_root p1) = f_X11_root_51 p1 v2_51 → ∀ (ls : Array Slot), lv_has ls 8 [(2, .long v2_51)] → W p l e R s m args below meth c s.heap [] 0 0 Q (F0 m 51 ls []) := by
    intro v2_51 hf ls hl
    refine lv_lload_n hx hb dX11_root_51 rfl (lv_at hl 0 rfl) ?_
    exact ret _ _ _ dX11_root_52 hf
  have J_7 : ∀ (v2_7 : Int64) (v4_7 : Int64), (f_X11_root p1) = f_X11_root_7 p1 v2_7 v4_7 → of_X11_root_7 p1 v2_7 v4_7 → ∀ (ls : Array Slot), lv_has ls 8 [(0, .long p1), (2, .long v2_7), (4, .long v4_7)] → W p l e R s m args below meth c s.heap [] 0 0 Q (F0 m 7 ls []) := by
    intro v2_7 v4_7 hf hok ls hl
    refine itr_W (f := (s_X11_root_7 p1)) (o := (os_X11_root_7 p1)) (fun (v : Int64 × Int64) => ∀ (ls : Array Slot), lv_has ls 8 [(0, .long p1), (2, .long v.1), (4, .long v.2)] → W p l e R s m args below meth c s.heap [] 0 0 Q (F0 m 7 ls [])) (fun (v : Int64 × Int64) => ∀ (ls : Array Slot), lv_has ls 8 [(2, .long v.1)] → W p l e R s m args below meth c s.heap [] 0 0 Q (F0 m 51 ls [])) ?_ FU (v2_7, v4_7) (And.left hok) ?_ ls (lv_sub hl [0, 1, 2] rfl)
    · intro v hov kc ke
      obtain ⟨w2_7, w4_7⟩ := v
      have hok : ob_X11_root_7 p1 w2_7 w4_7 := hov
      change ∀ v', (b_X11_root_7 p1 w2_7 w4_7) = (true, v') → _ at kc
      change ∀ v', (b_X11_root_7 p1 w2_7 w4_7) = (false, v') → _ at ke
      have hf : (b_X11_root_7 p1 w2_7 w4_7) = (b_X11_root_7 p1 w2_7 w4_7) := rfl
      intro ls hl
      refine lv_lload_n hx hb dX11_root_7 rfl (lv_at hl 1 rfl) ?_
      refine lv_lload hx hb dX11_root_8 (lv_at hl 2 rfl) ?_
      refine W.lcmp hx hb dX11_root_10 ?_
      refine lv_if_ge (tgt := 51) hx hb dX11_root_11 (by decide) (fun c_1 => ?_) (fun c_1 => ?_)
      · have hf := hf.trans (if_pos c_1)
        exact ke (w2_7, w4_7) hf ls (lv_sub hl [1] rfl)
      · have hf := hf.trans (if_neg c_1)
        refine lv_lload_n hx hb dX11_root_14 rfl (lv_at hl 1 rfl) ?_
        refine lv_lload hx hb dX11_root_15 (lv_at hl 2 rfl) ?_
        refine lv_ladd hx hb dX11_root_17 ?_
        refine lv_lconst (v := 1) hx hb dX11_root_18 (by decide) ?_
        refine lv_ladd hx hb dX11_root_19 ?_
        refine lv_ldc2 (v := 2) hx hb hown (hts _ q_1484) dX11_root_20 ?_
        refine lv_ldiv hx hb dX11_root_23 (by decide) ?_
        refine lv_lstore (lv' := [(6, .long (((w2_7 + w4_7) + 1) / 2)), (0, .long p1), (2, .long w2_7), (4, .long w4_7)]) hx hb dX11_root_24 hl (by decide) rfl (fun ls hl => ?_)
        refine lv_lload hx hb dX11_root_26 (lv_at hl 0 rfl) ?_
        refine lv_lload hx hb dX11_root_28 (lv_at hl 0 rfl) ?_
        refine lv_lmul hx hb dX11_root_30 ?_
        refine lv_lload_n hx hb dX11_root_31 rfl (lv_at hl 1 rfl) ?_
        refine W.lcmp hx hb dX11_root_32 ?_
        refine lv_if_gt (tgt := 42) hx hb dX11_root_33 (by decide) (fun c_2 => ?_) (fun c_2 => ?_)
        · have hf := hf.trans (if_pos c_2)
          refine lv_lload hx hb dX11_root_42 (lv_at hl 0 rfl) ?_
          refine lv_lconst (v := 1) hx hb dX11_root_44 (by decide) ?_
          refine lv_lsub hx hb dX11_root_45 ?_
          refine lv_lstore (lv' := [(4, .long ((((w2_7 + w4_7) + 1) / 2) - 1)), (6, .long (((w2_7 + w4_7) + 1) / 2)), (0, .long p1), (2, .long w2_7)]) hx hb dX11_root_46 hl (by decide) rfl (fun ls hl => ?_)
          refine lv_goto (tgt := 7) hx hb dX11_root_48 (by decide) ?_
          exact kc (w2_7, ((((w2_7 + w4_7) + 1) / 2) - 1)) hf ls (lv_sub hl [2, 3, 0] rfl)
        · have hf := hf.trans (if_neg c_2)
          refine lv_lload hx hb dX11_root_36 (lv_at hl 0 rfl) ?_
          refine lv_lstore_n (lv' := [(2, .long (((w2_7 + w4_7) + 1) / 2)), (6, .long (((w2_7 + w4_7) + 1) / 2)), (0, .long p1), (4, .long w4_7)]) hx hb dX11_root_38 rfl hl (by decide) rfl (fun ls hl => ?_)
          refine lv_goto (tgt := 48) hx hb dX11_root_39 (by decide) ?_
          refine lv_goto (tgt := 7) hx hb dX11_root_48 (by decide) ?_
          exact kc ((((w2_7 + w4_7) + 1) / 2), w4_7) hf ls (lv_sub hl [2, 0, 3] rfl)
    · have hok := And.right hok
      intro ls hl
      exact J_51 ((itr (s_X11_root_7 p1) FU (v2_7, v4_7)).1) hf ls (lv_sub hl [0] rfl)
  refine lv_lconst (v := 0) hx hb dX11_root_0 (by decide) ?_
  refine lv_lstore_n (lv' := [(2, .long 0), (0, .long p1)]) hx hb dX11_root_1 rfl hl (by decide) rfl (fun ls hl => ?_)
  refine lv_ldc2 (v := 1000000000) hx hb hown (hts _ q_1483) dX11_root_2 ?_
  refine lv_lstore (lv' := [(4, .long 1000000000), (2, .long 0), (0, .long p1)]) hx hb dX11_root_5 hl (by decide) rfl (fun ls hl => ?_)
  exact J_7 0 1000000000 hf hok ls (lv_sub hl [2, 1, 0] rfl)
def f_X11_isNight (p1 : Int32) : Int32 := (f_X11_isIn p1 0 3649)
def of_X11_isNight (p1 : Int32) : Prop := (zb (f_X11_isIn p1 0 3649) ∧ True)
set_option maxHeartbeats 4000000 in
set_option maxRecDepth 100000 in
theorem k_X11_isNight (l : Launch) (D : va_G) (a : Nat → ClassId) (p1 : Int32) (hok : of_X11_isNight p1) : K0 l yX11_isNight cX11_isNight 1 ((some .boolean)) 1 22 [.int p1] (BK D a) (.int (f_X11_isNight p1)) := by
  refine go0z (D := D) (a := a) (by decide +kernel) (fun _ h => h) (Nat.le_of_ble_eq_true rfl) ?_
  intro p e s m args below meth c ls R Q hRf hRl C hl hB
  obtain ⟨-, ret⟩ := hB
  have hl : lv_has ls 1 [(0, .int p1)] := hl
  have hx := C.1.1
  have hb := C.1.2.1
  have hts := C.1.2.2.2.2
  have hown := C.1.2.2.2.1
  have hf : (f_X11_isNight p1) = (f_X11_isNight p1) := rfl
  refine lv_iload_n hx hb dX11_isNight_0 rfl (lv_at hl 0 rfl) ?_
  refine lv_iconst (v := 0) hx hb dX11_isNight_1 (by decide) ?_
  refine lv_sipush (v := 3649) hx hb dX11_isNight_2 (by decide) ?_
  refine cc_S (av := [.int p1, .int 0, .int 3649]) C (k_X11_isIn l D a p1 0 3649) cw_X11_158 (okR_of hRf hRl (Nat.le_of_ble_eq_true rfl) (Nat.le_of_ble_eq_true rfl)) rfl rfl hl.1 (Nat.le_of_ble_eq_true rfl) (Nat.zero_le _) (Nat.zero_le _) dX11_isNight_5 ?_
  have ok_1 := And.left hok
  have hok := And.right hok
  exact ret _ _ _ dX11_isNight_8 ok_1 hf
def f_X11_isCamera (μ : MS) (p1 : Int32) : Int32 := (f_X11_isIn p1 0 ((mi μ 1 0) - 1))
def of_X11_isCamera (μ : MS) (p1 : Int32) : Prop := (zb (f_X11_isIn p1 0 ((mi μ 1 0) - 1)) ∧ True)
set_option maxHeartbeats 4000000 in
set_option maxRecDepth 100000 in
theorem k_X11_isCamera (l : Launch) (D : va_G) (a : Nat → ClassId) (mo : Nat) (μ : MS) (p1 : Int32) (hok : of_X11_isCamera μ p1) : K0 l yX11_isCamera cX11_isCamera 2 ((some .boolean)) 1 22 [.ref mo, .int p1] (BM D a mo μ) (.int (f_X11_isCamera μ p1)) := by
  refine go0z (D := D) (a := a) (by decide +kernel) (fun _ h => h.1) (Nat.le_of_ble_eq_true rfl) ?_
  intro p e s m args below meth c ls R Q hRf hRl C hl hB
  obtain ⟨hB, ret⟩ := hB
  have hM : HM D a mo μ s.heap s.heap [] := ⟨hB.2, va_S.rf⟩
  have hl : lv_has ls 2 [(0, .ref mo), (1, .int p1)] := hl
  have hx := C.1.1
  have hb := C.1.2.1
  have hts := C.1.2.2.2.2
  have hown := C.1.2.2.2.1
  have hf : (f_X11_isCamera μ p1) = (f_X11_isCamera μ p1) := rfl
  refine lv_iload_n hx hb dX11_isCamera_0 rfl (lv_at hl 1 rfl) ?_
  refine lv_iconst (v := 0) hx hb dX11_isCamera_1 (by decide) ?_
  refine lv_aload_n hx hb dX11_isCamera_2 rfl (lv_at hl 0 rfl) ?_
  refine mg_cameras C hM dX11_isCamera_3 ?_
  refine lv_iconst (v := 1) hx hb dX11_isCamera_6 (by decide) ?_
  refine lv_isub hx hb dX11_isCamera_7 ?_
  refine cc_S (av := [.int p1, .int 0, .int ((mi μ 1 0) - 1)]) C (k_X11_isIn l D a p1 0 ((mi μ 1 0) - 1)) cw_X11_158 (okR_of hRf hRl (Nat.le_of_ble_eq_true rfl) (Nat.le_of_ble_eq_true rfl)) rfl rfl hl.1 (Nat.le_of_ble_eq_true rfl) (Nat.zero_le _) (Nat.zero_le _) dX11_isCamera_8 ?_
  have ok_1 := And.left hok
  have hok := And.right hok
  exact ret _ _ _ dX11_isCamera_11 ok_1 hf
def f_X11_camera_62 (μ : MS) (p1 : Int32) (p2 : Int32) (p3 : Int32) (t0_62 : Int32) : Int32 × MS := (if t0_62 ≤ 0 then ((((mi μ 1 0) + 1) - 1), (mI (mI (mI (mI (mI μ 0 0 t0_62) 2 (ix (mi μ 1 0)) p1) 3 (ix (mi μ 1 0)) p2) 4 (ix (mi μ 1 0)) p3) 1 0 ((mi μ 1 0) + 1))) else (0, (mI μ 0 0 t0_62)))
def of_X11_camera_62 (μ : MS) (p1 : Int32) (p2 : Int32) (p3 : Int32) (t0_62 : Int32) : Prop := (oif (t0_62 ≤ 0) (vp_in (mi μ 1 0) 10 ∧ (vp_in (mi μ 1 0) 10 ∧ (vp_in (mi μ 1 0) 10 ∧ True))) True)
def f_X11_camera_36 (μ : MS) (p1 : Int32) (p2 : Int32) (p3 : Int32) (t0_36 : Int32) : Int32 × MS := (if t0_36 = 0 then (f_X11_camera_62 μ p1 p2 p3 1) else (if (mi μ 1 0) = 10 then (f_X11_camera_62 μ p1 p2 p3 2) else (f_X11_camera_62 μ p1 p2 p3 0)))
def of_X11_camera_36 (μ : MS) (p1 : Int32) (p2 : Int32) (p3 : Int32) (t0_36 : Int32) : Prop := (oif (t0_36 = 0) (of_X11_camera_62 μ p1 p2 p3 1) (oif ((mi μ 1 0) = 10) (of_X11_camera_62 μ p1 p2 p3 2) (of_X11_camera_62 μ p1 p2 p3 0)))
def f_X11_camera (μ : MS) (p1 : Int32) (p2 : Int32) (p3 : Int32) : Int32 × MS := (if (f_X11_isIn p1 0 99) = 0 then (f_X11_camera_36 μ p1 p2 p3 0) else (if (f_X11_isIn p2 0 99) = 0 then (f_X11_camera_36 μ p1 p2 p3 0) else (if (f_X11_isIn p3 (-99) 99) = 0 then (f_X11_camera_36 μ p1 p2 p3 0) else (f_X11_camera_36 μ p1 p2 p3 1))))
def of_X11_camera (μ : MS) (p1 : Int32) (p2 : Int32) (p3 : Int32) : Prop := (oif ((f_X11_isIn p1 0 99) = 0) (of_X11_camera_36 μ p1 p2 p3 0) (oif ((f_X11_isIn p2 0 99) = 0) (of_X11_camera_36 μ p1 p2 p3 0) (oif ((f_X11_isIn p3 (-99) 99) = 0) (of_X11_camera_36 μ p1 p2 p3 0) (of_X11_camera_36 μ p1 p2 p3 1))))
set_option maxHeartbeats 4000000 in
set_option maxRecDepth 100000 in
theorem k_X11_camera (l : Launch) (D : va_G) (a : Nat → ClassId) (mo : Nat) (μ : MS) (p1 : Int32) (p2 : Int32) (p3 : Int32) (hok : of_X11_camera μ p1 p2 p3) : KM l D a mo yX11_camera cX11_camera 5 ((some .int)) 1 22 [.int p1, .int p2, .int p3] μ (some (.int (f_X11_camera μ p1 p2 p3).1)) (f_X11_camera μ p1 p2 p3).2 := by
  refine goMi (by decide +kernel) (Nat.le_of_ble_eq_true rfl) ?_
  intro p e s m args below meth c ls R Q hRf hRl C hl hB
  obtain ⟨hM, ret⟩ := hB
  have hl : lv_has ls 5 [(0, .ref mo), (1, .int p1), (2, .int p2), (3, .int p3)] := hl
  have hx := C.1.1
  have hb := C.1.2.1
  have hts := C.1.2.2.2.2
  have hown := C.1.2.2.2.1
  have hf : (f_X11_camera μ p1 p2 p3) = (f_X11_camera μ p1 p2 p3) := rfl
  have J_62 : ∀ (t0_62 : Int32), (f_X11_camera μ p1 p2 p3) = f_X11_camera_62 μ p1 p2 p3 t0_62 → of_X11_camera_62 μ p1 p2 p3 t0_62 → ∀ (ls : Array Slot), lv_has ls 5 [(0, .ref mo), (1, .int p1), (2, .int p2), (3, .int p3)] → W p l e R s m args below meth c s.heap [] 0 0 Q (F0 m 62 ls [.int t0_62, .ref mo]) := by
    intro t0_62 hf hok ls hl
    refine mp_thrown C hM dX11_camera_62 (fun H locs hM => ?_)
    refine lv_aload_n hx hb dX11_camera_65 rfl (lv_at hl 0 rfl) ?_
    refine mg_thrown C hM dX11_camera_66 ?_
    refine lv_if_le (tgt := 74) hx hb dX11_camera_69 (by decide) (fun c_4 => ?_) (fun c_4 => ?_)
    · have hf := hf.trans (if_pos c_4)
      have hok := oif_pos hok c_4
      refine lv_aload_n hx hb dX11_camera_74 rfl (lv_at hl 0 rfl) ?_
      refine mg_cameraX C hM dX11_camera_75 ?_
      refine lv_aload_n hx hb dX11_camera_78 rfl (lv_at hl 0 rfl) ?_
      refine mg_cameras C hM dX11_camera_79 ?_
      refine lv_iload_n hx hb dX11_camera_82 rfl (lv_at hl 1 rfl) ?_
      have ok_5 := And.left hok
      have hok := And.right hok
      refine ms_cameraX C hM ok_5 dX11_camera_83 (fun H locs hM => ?_)
      refine lv_aload_n hx hb dX11_camera_84 rfl (lv_at hl 0 rfl) ?_
      refine mg_cameraY C hM dX11_camera_85 ?_
      refine lv_aload_n hx hb dX11_camera_88 rfl (lv_at hl 0 rfl) ?_
      refine mg_cameras C hM dX11_camera_89 ?_
      refine lv_iload_n hx hb dX11_camera_92 rfl (lv_at hl 2 rfl) ?_
      have ok_6 := And.left hok
      have hok := And.right hok
      refine ms_cameraY C hM ok_6 dX11_camera_93 (fun H locs hM => ?_)
      refine lv_aload_n hx hb dX11_camera_94 rfl (lv_at hl 0 rfl) ?_
      refine mg_wrongs C hM dX11_camera_95 ?_
      refine lv_aload_n hx hb dX11_camera_98 rfl (lv_at hl 0 rfl) ?_
      refine mg_cameras C hM dX11_camera_99 ?_
      refine lv_iload_n hx hb dX11_camera_102 rfl (lv_at hl 3 rfl) ?_
      have ok_7 := And.left hok
      have hok := And.right hok
      refine ms_wrongs C hM ok_7 dX11_camera_103 (fun H locs hM => ?_)
      refine lv_aload_n hx hb dX11_camera_104 rfl (lv_at hl 0 rfl) ?_
      refine lv_dup hx hb dX11_camera_105 rfl ?_
      refine mg_cameras C hM dX11_camera_106 ?_
      refine lv_iconst (v := 1) hx hb dX11_camera_109 (by decide) ?_
      refine lv_iadd hx hb dX11_camera_110 ?_
      refine mp_cameras C hM dX11_camera_111 (fun H locs hM => ?_)
      refine lv_aload_n hx hb dX11_camera_114 rfl (lv_at hl 0 rfl) ?_
      refine mg_cameras C hM dX11_camera_115 ?_
      refine lv_iconst (v := 1) hx hb dX11_camera_118 (by decide) ?_
      refine lv_isub hx hb dX11_camera_119 ?_
      exact ret _ _ _ _ _ _ hM dX11_camera_120 hf
    · have hf := hf.trans (if_neg c_4)
      have hok := oif_neg hok c_4
      refine lv_iconst (v := 0) hx hb dX11_camera_72 (by decide) ?_
      exact ret _ _ _ _ _ _ hM dX11_camera_73 hf
  have J_36 : ∀ (t0_36 : Int32), (f_X11_camera μ p1 p2 p3) = f_X11_camera_36 μ p1 p2 p3 t0_36 → of_X11_camera_36 μ p1 p2 p3 t0_36 → ∀ (ls : Array Slot), lv_has ls 5 [(0, .ref mo), (1, .int p1), (2, .int p2), (3, .int p3)] → W p l e R s m args below meth c s.heap [] 0 0 Q (F0 m 36 ls [.int t0_36]) := by
    intro t0_36 hf hok ls hl
    refine lv_istore (lv' := [(4, .int t0_36), (0, .ref mo), (1, .int p1), (2, .int p2), (3, .int p3)]) hx hb dX11_camera_36 hl (by decide) rfl (fun ls hl => ?_)
    refine lv_aload_n hx hb dX11_camera_38 rfl (lv_at hl 1 rfl) ?_
    refine lv_iload hx hb dX11_camera_39 (lv_at hl 0 rfl) ?_
    refine lv_if_ne (tgt := 48) hx hb dX11_camera_41 (by decide) (fun c_2 => ?_) (fun c_2 => ?_)
    · have hf := hf.trans (if_neg c_2)
      have hok := oif_neg hok c_2
      refine lv_aload_n hx hb dX11_camera_48 rfl (lv_at hl 1 rfl) ?_
      refine mg_cameras C hM dX11_camera_49 ?_
      refine lv_bipush (v := 10) hx hb dX11_camera_52 (by decide) ?_
      refine lv_icmp_ne (tgt := 61) hx hb dX11_camera_54 (by decide) (fun c_3 => ?_) (fun c_3 => ?_)
      · have hf := hf.trans (if_neg c_3)
        have hok := oif_neg hok c_3
        refine lv_iconst (v := 0) hx hb dX11_camera_61 (by decide) ?_
        exact J_62 0 hf hok ls (lv_sub hl [1, 2, 3, 4] rfl)
      · have hf := hf.trans (if_pos c_3)
        have hok := oif_pos hok c_3
        refine lv_iconst (v := 2) hx hb dX11_camera_57 (by decide) ?_
        refine lv_goto (tgt := 62) hx hb dX11_camera_58 (by decide) ?_
        exact J_62 2 hf hok ls (lv_sub hl [1, 2, 3, 4] rfl)
    · have hf := hf.trans (if_pos c_2)
      have hok := oif_pos hok c_2
      refine lv_iconst (v := 1) hx hb dX11_camera_44 (by decide) ?_
      refine lv_goto (tgt := 62) hx hb dX11_camera_45 (by decide) ?_
      exact J_62 1 hf hok ls (lv_sub hl [1, 2, 3, 4] rfl)
  refine lv_iload_n hx hb dX11_camera_0 rfl (lv_at hl 1 rfl) ?_
  refine lv_iconst (v := 0) hx hb dX11_camera_1 (by decide) ?_
  refine lv_bipush (v := 99) hx hb dX11_camera_2 (by decide) ?_
  refine cc_S (av := [.int p1, .int 0, .int 99]) C (k_X11_isIn l D a p1 0 99) cw_X11_158 (okR_of hRf hRl (Nat.le_of_ble_eq_true rfl) (Nat.le_of_ble_eq_true rfl)) rfl rfl hl.1 (Nat.le_of_ble_eq_true rfl) (Nat.zero_le _) (Nat.zero_le _) dX11_camera_4 ?_
  refine lv_if_eq (tgt := 35) hx hb dX11_camera_7 (by decide) (fun c_1 => ?_) (fun c_1 => ?_)
  · have hf := hf.trans (if_pos c_1)
    have hok := oif_pos hok c_1
    refine lv_iconst (v := 0) hx hb dX11_camera_35 (by decide) ?_
    exact J_36 0 hf hok ls (lv_sub hl [0, 1, 2, 3] rfl)
  · have hf := hf.trans (if_neg c_1)
    have hok := oif_neg hok c_1
    refine lv_iload_n hx hb dX11_camera_10 rfl (lv_at hl 2 rfl) ?_
    refine lv_iconst (v := 0) hx hb dX11_camera_11 (by decide) ?_
    refine lv_bipush (v := 99) hx hb dX11_camera_12 (by decide) ?_
    refine cc_S (av := [.int p2, .int 0, .int 99]) C (k_X11_isIn l D a p2 0 99) cw_X11_158 (okR_of hRf hRl (Nat.le_of_ble_eq_true rfl) (Nat.le_of_ble_eq_true rfl)) rfl rfl hl.1 (Nat.le_of_ble_eq_true rfl) (Nat.zero_le _) (Nat.zero_le _) dX11_camera_14 ?_
    refine lv_if_eq (tgt := 35) hx hb dX11_camera_17 (by decide) (fun c_8 => ?_) (fun c_8 => ?_)
    · have hf := hf.trans (if_pos c_8)
      have hok := oif_pos hok c_8
      refine lv_iconst (v := 0) hx hb dX11_camera_35 (by decide) ?_
      exact J_36 0 hf hok ls (lv_sub hl [0, 1, 2, 3] rfl)
    · have hf := hf.trans (if_neg c_8)
      have hok := oif_neg hok c_8
      refine lv_iload_n hx hb dX11_camera_20 rfl (lv_at hl 3 rfl) ?_
      refine lv_bipush (v := (-99)) hx hb dX11_camera_21 (by decide) ?_
      refine lv_bipush (v := 99) hx hb dX11_camera_23 (by decide) ?_
      refine cc_S (av := [.int p3, .int (-99), .int 99]) C (k_X11_isIn l D a p3 (-99) 99) cw_X11_158 (okR_of hRf hRl (Nat.le_of_ble_eq_true rfl) (Nat.le_of_ble_eq_true rfl)) rfl rfl hl.1 (Nat.le_of_ble_eq_true rfl) (Nat.zero_le _) (Nat.zero_le _) dX11_camera_25 ?_
      refine lv_if_eq (tgt := 35) hx hb dX11_camera_28 (by decide) (fun c_9 => ?_) (fun c_9 => ?_)
      · have hf := hf.trans (if_pos c_9)
        have hok := oif_pos hok c_9
        refine lv_iconst (v := 0) hx hb dX11_camera_35 (by decide) ?_
        exact J_36 0 hf hok ls (lv_sub hl [0, 1, 2, 3] rfl)
      · have hf := hf.trans (if_neg c_9)
        have hok := oif_neg hok c_9
        refine lv_iconst (v := 1) hx hb dX11_camera_31 (by decide) ?_
        refine lv_goto (tgt := 36) hx hb dX11_camera_32 (by decide) ?_
        exact J_36 1 hf hok ls (lv_sub hl [0, 1, 2, 3] rfl)
def f_X11_clock_29 (μ : MS) (p1 : Int32) (p2 : Int32) (t0_29 : Int32) : Int32 × MS := (if t0_29 ≤ 0 then ((mi μ 4 (ix p1)), (mI (mI μ 0 0 t0_29) 4 (ix p1) p2)) else (0, (mI μ 0 0 t0_29)))
def of_X11_clock_29 (μ : MS) (p1 : Int32) (p2 : Int32) (t0_29 : Int32) : Prop := (oif (t0_29 ≤ 0) (vp_in p1 10 ∧ (vp_in p1 10 ∧ True)) True)
def f_X11_clock (μ : MS) (p1 : Int32) (p2 : Int32) : Int32 × MS := (if (f_X11_isCamera μ p1) = 0 then (f_X11_clock_29 μ p1 p2 1) else (if (f_X11_isIn p2 (-99) 99) = 0 then (f_X11_clock_29 μ p1 p2 2) else (f_X11_clock_29 μ p1 p2 0)))
def of_X11_clock (μ : MS) (p1 : Int32) (p2 : Int32) : Prop := (of_X11_isCamera μ p1 ∧ (oif ((f_X11_isCamera μ p1) = 0) (of_X11_clock_29 μ p1 p2 1) (oif ((f_X11_isIn p2 (-99) 99) = 0) (of_X11_clock_29 μ p1 p2 2) (of_X11_clock_29 μ p1 p2 0))))
set_option maxHeartbeats 4000000 in
set_option maxRecDepth 100000 in
theorem k_X11_clock (l : Launch) (D : va_G) (a : Nat → ClassId) (mo : Nat) (μ : MS) (p1 : Int32) (p2 : Int32) (hok : of_X11_clock μ p1 p2) : KM l D a mo yX11_clock cX11_clock 4 ((some .int)) 2 43 [.int p1, .int p2] μ (some (.int (f_X11_clock μ p1 p2).1)) (f_X11_clock μ p1 p2).2 := by
  refine goMi (by decide +kernel) (Nat.le_of_ble_eq_true rfl) ?_
  intro p e s m args below meth c ls R Q hRf hRl C hl hB
  obtain ⟨hM, ret⟩ := hB
  have hl : lv_has ls 4 [(0, .ref mo), (1, .int p1), (2, .int p2)] := hl
  have hx := C.1.1
  have hb := C.1.2.1
  have hts := C.1.2.2.2.2
  have hown := C.1.2.2.2.1
  have hf : (f_X11_clock μ p1 p2) = (f_X11_clock μ p1 p2) := rfl
  have J_29 : ∀ (t0_29 : Int32), (f_X11_clock μ p1 p2) = f_X11_clock_29 μ p1 p2 t0_29 → of_X11_clock_29 μ p1 p2 t0_29 → ∀ (ls : Array Slot), lv_has ls 4 [(0, .ref mo), (1, .int p1), (2, .int p2)] → W p l e R s m args below meth c s.heap [] 0 0 Q (F0 m 29 ls [.int t0_29, .ref mo]) := by
    intro t0_29 hf hok ls hl
    refine mp_thrown C hM dX11_clock_29 (fun H locs hM => ?_)
    refine lv_aload_n hx hb dX11_clock_32 rfl (lv_at hl 0 rfl) ?_
    refine mg_thrown C hM dX11_clock_33 ?_
    refine lv_if_le (tgt := 41) hx hb dX11_clock_36 (by decide) (fun c_4 => ?_) (fun c_4 => ?_)
    · have hf := hf.trans (if_pos c_4)
      have hok := oif_pos hok c_4
      refine lv_aload_n hx hb dX11_clock_41 rfl (lv_at hl 0 rfl) ?_
      refine mg_wrongs C hM dX11_clock_42 ?_
      refine lv_iload_n hx hb dX11_clock_45 rfl (lv_at hl 1 rfl) ?_
      have ok_5 := And.left hok
      have hok := And.right hok
      refine ma_wrongs C hM ok_5 dX11_clock_46 ?_
      refine lv_istore_n (lv' := [(3, .int (mi μ 4 (ix p1))), (0, .ref mo), (1, .int p1), (2, .int p2)]) hx hb dX11_clock_47 rfl hl (by decide) rfl (fun ls hl => ?_)
      refine lv_aload_n hx hb dX11_clock_48 rfl (lv_at hl 1 rfl) ?_
      refine mg_wrongs C hM dX11_clock_49 ?_
      refine lv_iload_n hx hb dX11_clock_52 rfl (lv_at hl 2 rfl) ?_
      refine lv_iload_n hx hb dX11_clock_53 rfl (lv_at hl 3 rfl) ?_
      have ok_6 := And.left hok
      have hok := And.right hok
      refine ms_wrongs C hM ok_6 dX11_clock_54 (fun H locs hM => ?_)
      refine lv_iload_n hx hb dX11_clock_55 rfl (lv_at hl 0 rfl) ?_
      exact ret _ _ _ _ _ _ hM dX11_clock_56 hf
    · have hf := hf.trans (if_neg c_4)
      have hok := oif_neg hok c_4
      refine lv_iconst (v := 0) hx hb dX11_clock_39 (by decide) ?_
      exact ret _ _ _ _ _ _ hM dX11_clock_40 hf
  refine lv_aload_n hx hb dX11_clock_0 rfl (lv_at hl 0 rfl) ?_
  refine lv_aload_n hx hb dX11_clock_1 rfl (lv_at hl 0 rfl) ?_
  refine lv_iload_n hx hb dX11_clock_2 rfl (lv_at hl 1 rfl) ?_
  have ok_1 := And.left hok
  have hok := And.right hok
  refine cc_R (av := [.int p1]) C hM (k_X11_isCamera l D a mo μ p1 ok_1) cw_X11_165 (okR_of hRf hRl (Nat.le_of_ble_eq_true rfl) (Nat.le_of_ble_eq_true rfl)) rfl rfl hl.1 (Nat.le_of_ble_eq_true rfl) (Nat.zero_le _) (Nat.zero_le _) dX11_clock_3 ?_
  refine lv_if_ne (tgt := 13) hx hb dX11_clock_6 (by decide) (fun c_2 => ?_) (fun c_2 => ?_)
  · have hf := hf.trans (if_neg c_2)
    have hok := oif_neg hok c_2
    refine lv_iload_n hx hb dX11_clock_13 rfl (lv_at hl 2 rfl) ?_
    refine lv_bipush (v := (-99)) hx hb dX11_clock_14 (by decide) ?_
    refine lv_bipush (v := 99) hx hb dX11_clock_16 (by decide) ?_
    refine cc_S (av := [.int p2, .int (-99), .int 99]) C (k_X11_isIn l D a p2 (-99) 99) cw_X11_158 (okR_of hRf hRl (Nat.le_of_ble_eq_true rfl) (Nat.le_of_ble_eq_true rfl)) rfl rfl hl.1 (Nat.le_of_ble_eq_true rfl) (Nat.zero_le _) (Nat.zero_le _) dX11_clock_18 ?_
    refine lv_if_ne (tgt := 28) hx hb dX11_clock_21 (by decide) (fun c_3 => ?_) (fun c_3 => ?_)
    · have hf := hf.trans (if_neg c_3)
      have hok := oif_neg hok c_3
      refine lv_iconst (v := 0) hx hb dX11_clock_28 (by decide) ?_
      exact J_29 0 hf hok ls (lv_sub hl [0, 1, 2] rfl)
    · have hf := hf.trans (if_pos c_3)
      have hok := oif_pos hok c_3
      refine lv_iconst (v := 2) hx hb dX11_clock_24 (by decide) ?_
      refine lv_goto (tgt := 29) hx hb dX11_clock_25 (by decide) ?_
      exact J_29 2 hf hok ls (lv_sub hl [0, 1, 2] rfl)
  · have hf := hf.trans (if_pos c_2)
    have hok := oif_pos hok c_2
    refine lv_iconst (v := 1) hx hb dX11_clock_9 (by decide) ?_
    refine lv_goto (tgt := 29) hx hb dX11_clock_10 (by decide) ?_
    exact J_29 1 hf hok ls (lv_sub hl [0, 1, 2] rfl)
def f_X11_isCloudy_l5_45 (p1 : Int32) (p2 : Int32) (μ : MS) (w3_5 : Int32) (w4_5 : Int32) (v4_45 : Int32) (t0_45 : Int32) : Bool × (Int32 × Int32) := (true, (t0_45, (v4_45 + 1)))
def b_X11_isCloudy_5 (p1 : Int32) (p2 : Int32) (μ : MS) (w3_5 : Int32) (w4_5 : Int32) : Bool × (Int32 × Int32) := (if (mi μ 5 0) ≤ w4_5 then (false, (w3_5, w4_5)) else (if w3_5 = 0 then (if (mi μ 6 (ix w4_5)) = p1 then (if (mi μ 7 (ix w4_5)) = p2 then (f_X11_isCloudy_l5_45 p1 p2 μ w3_5 w4_5 w4_5 1) else (f_X11_isCloudy_l5_45 p1 p2 μ w3_5 w4_5 w4_5 0)) else (f_X11_isCloudy_l5_45 p1 p2 μ w3_5 w4_5 w4_5 0)) else (f_X11_isCloudy_l5_45 p1 p2 μ w3_5 w4_5 w4_5 1)))
def ob_X11_isCloudy_5 (p1 : Int32) (p2 : Int32) (μ : MS) (w3_5 : Int32) (w4_5 : Int32) : Prop := (oif ((mi μ 5 0) ≤ w4_5) True (oif (w3_5 = 0) (vp_in w4_5 50 ∧ (oif ((mi μ 6 (ix w4_5)) = p1) (vp_in w4_5 50 ∧ True) True)) True))
def s_X11_isCloudy_5 (p1 : Int32) (p2 : Int32) (μ : MS) (v : Int32 × Int32) : Bool × (Int32 × Int32) := b_X11_isCloudy_5 p1 p2 μ v.1 v.2
def os_X11_isCloudy_5 (p1 : Int32) (p2 : Int32) (μ : MS) (v : Int32 × Int32) : Prop := ob_X11_isCloudy_5 p1 p2 μ v.1 v.2
def f_X11_isCloudy_52 (μ : MS) (p1 : Int32) (p2 : Int32) (v3_52 : Int32) : Int32 := v3_52
def of_X11_isCloudy_52 (μ : MS) (p1 : Int32) (p2 : Int32) (v3_52 : Int32) : Prop := (zb v3_52 ∧ True)
def f_X11_isCloudy_5 (μ : MS) (p1 : Int32) (p2 : Int32) (v3_5 : Int32) (v4_5 : Int32) : Int32 := (f_X11_isCloudy_52 μ p1 p2 ((itr (s_X11_isCloudy_5 p1 p2 μ) FU (v3_5, v4_5)).1))
def of_X11_isCloudy_5 (μ : MS) (p1 : Int32) (p2 : Int32) (v3_5 : Int32) (v4_5 : Int32) : Prop := (ito (s_X11_isCloudy_5 p1 p2 μ) (os_X11_isCloudy_5 p1 p2 μ) FU (v3_5, v4_5) ∧ (of_X11_isCloudy_52 μ p1 p2 ((itr (s_X11_isCloudy_5 p1 p2 μ) FU (v3_5, v4_5)).1)))
def f_X11_isCloudy (μ : MS) (p1 : Int32) (p2 : Int32) : Int32 := (f_X11_isCloudy_5 μ p1 p2 0 0)
def of_X11_isCloudy (μ : MS) (p1 : Int32) (p2 : Int32) : Prop := (of_X11_isCloudy_5 μ p1 p2 0 0)
set_option maxHeartbeats 4000000 in
set_option maxRecDepth 100000 in
theorem k_X11_isCloudy (l : Launch) (D : va_G) (a : Nat → ClassId) (mo : Nat) (μ : MS) (p1 : Int32) (p2 : Int32) (hok : of_X11_isCloudy μ p1 p2) : K0 l yX11_isCloudy cX11_isCloudy 5 ((some .boolean)) 0 0 [.ref mo, .int p1, .int p2] (BM D a mo μ) (.int (f_X11_isCloudy μ p1 p2)) := by
  refine go0z (D := D) (a := a) (by decide +kernel) (fun _ h => h.1) (Nat.le_of_ble_eq_true rfl) ?_
  intro p e s m args below meth c ls R Q hRf hRl C hl hB
  obtain ⟨hB, ret⟩ := hB
  have hM : HM D a mo μ s.heap s.heap [] := ⟨hB.2, va_S.rf⟩
  have hl : lv_has ls 5 [(0, .ref mo), (1, .int p1), (2, .int p2)] := hl
  have hx := C.1.1
  have hb := C.1.2.1
  have hts := C.1.2.2.2.2
  have hown := C.1.2.2.2.1
  have hf : (f_X11_isCloudy μ p1 p2) = (f_X11_isCloudy μ p1 p2) := rfl
  have J_52 : ∀ (v3_52 : Int32), (f_X11_isCloudy μ p1 p2) = f_X11_isCloudy_52 μ p1 p2 v3_52 → of_X11_isCloudy_52 μ p1 p2 v3_52 → ∀ (ls : Array Slot), lv_has ls 5 [(3, .int v3_52)] → W p l e R s m args below meth c s.heap [] 0 0 Q (F0 m 52 ls []) := by
    intro v3_52 hf hok ls hl
    refine lv_iload_n hx hb dX11_isCloudy_52 rfl (lv_at hl 0 rfl) ?_
    have ok_7 := And.left hok
    have hok := And.right hok
    exact ret _ _ _ dX11_isCloudy_53 ok_7 hf
  have J_5 : ∀ (v3_5 : Int32) (v4_5 : Int32), (f_X11_isCloudy μ p1 p2) = f_X11_isCloudy_5 μ p1 p2 v3_5 v4_5 → of_X11_isCloudy_5 μ p1 p2 v3_5 v4_5 → ∀ (ls : Array Slot), lv_has ls 5 [(0, .ref mo), (1, .int p1), (2, .int p2), (3, .int v3_5), (4, .int v4_5)] → W p l e R s m args below meth c s.heap [] 0 0 Q (F0 m 5 ls []) := by
    intro v3_5 v4_5 hf hok ls hl
    refine itr_W (f := (s_X11_isCloudy_5 p1 p2 μ)) (o := (os_X11_isCloudy_5 p1 p2 μ)) (fun (v : Int32 × Int32) => ∀ (ls : Array Slot), lv_has ls 5 [(0, .ref mo), (1, .int p1), (2, .int p2), (3, .int v.1), (4, .int v.2)] → W p l e R s m args below meth c s.heap [] 0 0 Q (F0 m 5 ls [])) (fun (v : Int32 × Int32) => ∀ (ls : Array Slot), lv_has ls 5 [(3, .int v.1)] → W p l e R s m args below meth c s.heap [] 0 0 Q (F0 m 52 ls [])) ?_ FU (v3_5, v4_5) (And.left hok) ?_ ls (lv_sub hl [0, 1, 2, 3, 4] rfl)
    · intro v hov kc ke
      obtain ⟨w3_5, w4_5⟩ := v
      have hok : ob_X11_isCloudy_5 p1 p2 μ w3_5 w4_5 := hov
      change ∀ v', (b_X11_isCloudy_5 p1 p2 μ w3_5 w4_5) = (true, v') → _ at kc
      change ∀ v', (b_X11_isCloudy_5 p1 p2 μ w3_5 w4_5) = (false, v') → _ at ke
      have hf : (b_X11_isCloudy_5 p1 p2 μ w3_5 w4_5) = (b_X11_isCloudy_5 p1 p2 μ w3_5 w4_5) := rfl
      intro ls hl
      have J_l5_45 : ∀ (v4_45 : Int32) (t0_45 : Int32), (b_X11_isCloudy_5 p1 p2 μ w3_5 w4_5) = f_X11_isCloudy_l5_45 p1 p2 μ w3_5 w4_5 v4_45 t0_45 → ∀ (ls : Array Slot), lv_has ls 5 [(0, .ref mo), (1, .int p1), (2, .int p2), (4, .int v4_45)] → W p l e R s m args below meth c s.heap [] 0 0 Q (F0 m 45 ls [.int t0_45]) := by
        intro v4_45 t0_45 hf ls hl
        refine lv_istore_n (lv' := [(3, .int t0_45), (0, .ref mo), (1, .int p1), (2, .int p2), (4, .int v4_45)]) hx hb dX11_isCloudy_45 rfl hl (by decide) rfl (fun ls hl => ?_)
        refine lv_iinc (v := (v4_45 + 1)) (lv' := [(4, .int (v4_45 + 1)), (3, .int t0_45), (0, .ref mo), (1, .int p1), (2, .int p2)]) hx hb dX11_isCloudy_46 hl (k := 4) rfl rfl (by decide) rfl (fun ls hl => ?_)
        refine lv_goto (tgt := 5) hx hb dX11_isCloudy_49 (by decide) ?_
        exact kc (t0_45, (v4_45 + 1)) hf ls (lv_sub hl [2, 3, 4, 1, 0] rfl)
      refine lv_iload hx hb dX11_isCloudy_5 (lv_at hl 4 rfl) ?_
      refine lv_aload_n hx hb dX11_isCloudy_7 rfl (lv_at hl 0 rfl) ?_
      refine mg_clouds C hM dX11_isCloudy_8 ?_
      refine lv_icmp_ge (tgt := 52) hx hb dX11_isCloudy_11 (by decide) (fun c_1 => ?_) (fun c_1 => ?_)
      · have hf := hf.trans (if_pos c_1)
        have hok := oif_pos hok c_1
        exact ke (w3_5, w4_5) hf ls (lv_sub hl [3] rfl)
      · have hf := hf.trans (if_neg c_1)
        have hok := oif_neg hok c_1
        refine lv_iload_n hx hb dX11_isCloudy_14 rfl (lv_at hl 3 rfl) ?_
        refine lv_if_ne (tgt := 40) hx hb dX11_isCloudy_15 (by decide) (fun c_2 => ?_) (fun c_2 => ?_)
        · have hf := hf.trans (if_neg c_2)
          have hok := oif_neg hok c_2
          refine lv_iconst (v := 1) hx hb dX11_isCloudy_40 (by decide) ?_
          refine lv_goto (tgt := 45) hx hb dX11_isCloudy_41 (by decide) ?_
          exact J_l5_45 w4_5 1 hf ls (lv_sub hl [0, 1, 2, 4] rfl)
        · have hf := hf.trans (if_pos c_2)
          have hok := oif_pos hok c_2
          refine lv_aload_n hx hb dX11_isCloudy_18 rfl (lv_at hl 0 rfl) ?_
          refine mg_cloudCameras C hM dX11_isCloudy_19 ?_
          refine lv_iload hx hb dX11_isCloudy_22 (lv_at hl 4 rfl) ?_
          have ok_3 := And.left hok
          have hok := And.right hok
          refine ma_cloudCameras C hM ok_3 dX11_isCloudy_24 ?_
          refine lv_iload_n hx hb dX11_isCloudy_25 rfl (lv_at hl 1 rfl) ?_
          refine lv_icmp_ne (tgt := 44) hx hb dX11_isCloudy_26 (by decide) (fun c_4 => ?_) (fun c_4 => ?_)
          · have hf := hf.trans (if_neg c_4)
            have hok := oif_neg hok c_4
            refine lv_iconst (v := 0) hx hb dX11_isCloudy_44 (by decide) ?_
            exact J_l5_45 w4_5 0 hf ls (lv_sub hl [0, 1, 2, 4] rfl)
          · have hf := hf.trans (if_pos c_4)
            have hok := oif_pos hok c_4
            refine lv_aload_n hx hb dX11_isCloudy_29 rfl (lv_at hl 0 rfl) ?_
            refine mg_cloudNights C hM dX11_isCloudy_30 ?_
            refine lv_iload hx hb dX11_isCloudy_33 (lv_at hl 4 rfl) ?_
            have ok_5 := And.left hok
            have hok := And.right hok
            refine ma_cloudNights C hM ok_5 dX11_isCloudy_35 ?_
            refine lv_iload_n hx hb dX11_isCloudy_36 rfl (lv_at hl 2 rfl) ?_
            refine lv_icmp_ne (tgt := 44) hx hb dX11_isCloudy_37 (by decide) (fun c_6 => ?_) (fun c_6 => ?_)
            · have hf := hf.trans (if_neg c_6)
              refine lv_iconst (v := 0) hx hb dX11_isCloudy_44 (by decide) ?_
              exact J_l5_45 w4_5 0 hf ls (lv_sub hl [0, 1, 2, 4] rfl)
            · have hf := hf.trans (if_pos c_6)
              refine lv_iconst (v := 1) hx hb dX11_isCloudy_40 (by decide) ?_
              refine lv_goto (tgt := 45) hx hb dX11_isCloudy_41 (by decide) ?_
              exact J_l5_45 w4_5 1 hf ls (lv_sub hl [0, 1, 2, 4] rfl)
    · have hok := And.right hok
      intro ls hl
      exact J_52 ((itr (s_X11_isCloudy_5 p1 p2 μ) FU (v3_5, v4_5)).1) hf hok ls (lv_sub hl [0] rfl)
  refine lv_iconst (v := 0) hx hb dX11_isCloudy_0 (by decide) ?_
  refine lv_istore_n (lv' := [(3, .int 0), (0, .ref mo), (1, .int p1), (2, .int p2)]) hx hb dX11_isCloudy_1 rfl hl (by decide) rfl (fun ls hl => ?_)
  refine lv_iconst (v := 0) hx hb dX11_isCloudy_2 (by decide) ?_
  refine lv_istore (lv' := [(4, .int 0), (3, .int 0), (0, .ref mo), (1, .int p1), (2, .int p2)]) hx hb dX11_isCloudy_3 hl (by decide) rfl (fun ls hl => ?_)
  exact J_5 0 0 hf hok ls (lv_sub hl [2, 3, 4, 1, 0] rfl)
def f_X11_cloud_l10_50 (p1 : Int32) (p2 : Int32) (μ : MS) (w3_10 : Int32) (w4_10 : Int32) (v4_50 : Int32) (t0_50 : Int32) : Bool × (Int32 × Int32) := (true, (t0_50, (v4_50 + 1)))
def b_X11_cloud_10 (p1 : Int32) (p2 : Int32) (μ : MS) (w3_10 : Int32) (w4_10 : Int32) : Bool × (Int32 × Int32) := (if (mi μ 13 0) ≤ w4_10 then (false, (w3_10, w4_10)) else (if w3_10 = 0 then (if (mi μ 14 (ix w4_10)) = p1 then (if (mi μ 15 (ix w4_10)) = p2 then (f_X11_cloud_l10_50 p1 p2 μ w3_10 w4_10 w4_10 1) else (f_X11_cloud_l10_50 p1 p2 μ w3_10 w4_10 w4_10 0)) else (f_X11_cloud_l10_50 p1 p2 μ w3_10 w4_10 w4_10 0)) else (f_X11_cloud_l10_50 p1 p2 μ w3_10 w4_10 w4_10 1)))
def ob_X11_cloud_10 (p1 : Int32) (p2 : Int32) (μ : MS) (w3_10 : Int32) (w4_10 : Int32) : Prop := (oif ((mi μ 13 0) ≤ w4_10) True (oif (w3_10 = 0) (vp_in w4_10 60 ∧ (oif ((mi μ 14 (ix w4_10)) = p1) (vp_in w4_10 60 ∧ True) True)) True))
def s_X11_cloud_10 (p1 : Int32) (p2 : Int32) (μ : MS) (v : Int32 × Int32) : Bool × (Int32 × Int32) := b_X11_cloud_10 p1 p2 μ v.1 v.2
def os_X11_cloud_10 (p1 : Int32) (p2 : Int32) (μ : MS) (v : Int32 × Int32) : Prop := ob_X11_cloud_10 p1 p2 μ v.1 v.2
def f_X11_cloud_l147_174 (p1 : Int32) (μ_147 : MS) (w4_147 : Int32) (w5_147 : Int32) (v5_174 : Int32) (t0_174 : Int32) (t1_174 : Int32) : Bool × (Int32 × Int32) := (true, ((t1_174 + t0_174), (v5_174 + 1)))
def b_X11_cloud_147 (p1 : Int32) (μ_147 : MS) (w4_147 : Int32) (w5_147 : Int32) : Bool × (Int32 × Int32) := (if (mi μ_147 5 0) ≤ w5_147 then (false, (w4_147, w5_147)) else (if (mi μ_147 6 (ix w5_147)) = p1 then (f_X11_cloud_l147_174 p1 μ_147 w4_147 w5_147 w5_147 1 w4_147) else (f_X11_cloud_l147_174 p1 μ_147 w4_147 w5_147 w5_147 0 w4_147)))
def ob_X11_cloud_147 (p1 : Int32) (μ_147 : MS) (w4_147 : Int32) (w5_147 : Int32) : Prop := (oif ((mi μ_147 5 0) ≤ w5_147) True (vp_in w5_147 50 ∧ True))
def s_X11_cloud_147 (p1 : Int32) (μ_147 : MS) (v : Int32 × Int32) : Bool × (Int32 × Int32) := b_X11_cloud_147 p1 μ_147 v.1 v.2
def os_X11_cloud_147 (p1 : Int32) (μ_147 : MS) (v : Int32 × Int32) : Prop := ob_X11_cloud_147 p1 μ_147 v.1 v.2
def f_X11_cloud_183 (μ : MS) (p1 : Int32) (p2 : Int32) (v4_183 : Int32) (μ_183 : MS) : Int32 × MS := (v4_183, μ_183)
def f_X11_cloud_147 (μ : MS) (p1 : Int32) (p2 : Int32) (v4_147 : Int32) (v5_147 : Int32) (μ_147 : MS) : Int32 × MS := (f_X11_cloud_183 μ p1 p2 ((itr (s_X11_cloud_147 p1 μ_147) FU (v4_147, v5_147)).1) μ_147)
def of_X11_cloud_147 (μ : MS) (p1 : Int32) (p2 : Int32) (v4_147 : Int32) (v5_147 : Int32) (μ_147 : MS) : Prop := (ito (s_X11_cloud_147 p1 μ_147) (os_X11_cloud_147 p1 μ_147) FU (v4_147, v5_147) ∧ True)
def f_X11_cloud_99 (μ : MS) (p1 : Int32) (p2 : Int32) (t0_99 : Int32) : Int32 × MS := (if t0_99 ≤ 0 then (f_X11_cloud_147 μ p1 p2 0 0 (mI (mI (mI (mI μ 0 0 t0_99) 6 (ix (mi μ 5 0)) p1) 7 (ix (mi μ 5 0)) p2) 5 0 ((mi μ 5 0) + 1))) else (0, (mI μ 0 0 t0_99)))
def of_X11_cloud_99 (μ : MS) (p1 : Int32) (p2 : Int32) (t0_99 : Int32) : Prop := (oif (t0_99 ≤ 0) (vp_in (mi μ 5 0) 50 ∧ (vp_in (mi μ 5 0) 50 ∧ (of_X11_cloud_147 μ p1 p2 0 0 (mI (mI (mI (mI μ 0 0 t0_99) 6 (ix (mi μ 5 0)) p1) 7 (ix (mi μ 5 0)) p2) 5 0 ((mi μ 5 0) + 1))))) True)
def f_X11_cloud_57 (μ : MS) (p1 : Int32) (p2 : Int32) (v3_57 : Int32) : Int32 × MS := (if (f_X11_isCamera μ p1) = 0 then (f_X11_cloud_99 μ p1 p2 1) else (if (f_X11_isNight p2) = 0 then (f_X11_cloud_99 μ p1 p2 2) else (if v3_57 = 0 then (if (mi μ 5 0) = 50 then (f_X11_cloud_99 μ p1 p2 3) else (f_X11_cloud_99 μ p1 p2 0)) else (f_X11_cloud_99 μ p1 p2 3))))
def of_X11_cloud_57 (μ : MS) (p1 : Int32) (p2 : Int32) (v3_57 : Int32) : Prop := (of_X11_isCamera μ p1 ∧ (oif ((f_X11_isCamera μ p1) = 0) (of_X11_cloud_99 μ p1 p2 1) (of_X11_isNight p2 ∧ (oif ((f_X11_isNight p2) = 0) (of_X11_cloud_99 μ p1 p2 2) (oif (v3_57 = 0) (oif ((mi μ 5 0) = 50) (of_X11_cloud_99 μ p1 p2 3) (of_X11_cloud_99 μ p1 p2 0)) (of_X11_cloud_99 μ p1 p2 3))))))
def f_X11_cloud_10 (μ : MS) (p1 : Int32) (p2 : Int32) (v3_10 : Int32) (v4_10 : Int32) : Int32 × MS := (f_X11_cloud_57 μ p1 p2 ((itr (s_X11_cloud_10 p1 p2 μ) FU (v3_10, v4_10)).1))
def of_X11_cloud_10 (μ : MS) (p1 : Int32) (p2 : Int32) (v3_10 : Int32) (v4_10 : Int32) : Prop := (ito (s_X11_cloud_10 p1 p2 μ) (os_X11_cloud_10 p1 p2 μ) FU (v3_10, v4_10) ∧ (of_X11_cloud_57 μ p1 p2 ((itr (s_X11_cloud_10 p1 p2 μ) FU (v3_10, v4_10)).1)))
def f_X11_cloud (μ : MS) (p1 : Int32) (p2 : Int32) : Int32 × MS := (f_X11_cloud_10 μ p1 p2 (f_X11_isCloudy μ p1 p2) 0)
def of_X11_cloud (μ : MS) (p1 : Int32) (p2 : Int32) : Prop := (of_X11_isCloudy μ p1 p2 ∧ (of_X11_cloud_10 μ p1 p2 (f_X11_isCloudy μ p1 p2) 0))
set_option maxHeartbeats 4000000 in
set_option maxRecDepth 100000 in
theorem k_X11_cloud (l : Launch) (D : va_G) (a : Nat → ClassId) (mo : Nat) (μ : MS) (p1 : Int32) (p2 : Int32) (hok : of_X11_cloud μ p1 p2) : KM l D a mo yX11_cloud cX11_cloud 6 ((some .int)) 2 43 [.int p1, .int p2] μ (some (.int (f_X11_cloud μ p1 p2).1)) (f_X11_cloud μ p1 p2).2 := by
  refine goMi (by decide +kernel) (Nat.le_of_ble_eq_true rfl) ?_
  intro p e s m args below meth c ls R Q hRf hRl C hl hB
  obtain ⟨hM, ret⟩ := hB
  have hl : lv_has ls 6 [(0, .ref mo), (1, .int p1), (2, .int p2)] := hl
  have hx := C.1.1
  have hb := C.1.2.1
  have hts := C.1.2.2.2.2
  have hown := C.1.2.2.2.1
  have hf : (f_X11_cloud μ p1 p2) = (f_X11_cloud μ p1 p2) := rfl
  have J_183 : ∀ (v4_183 : Int32) (μ_183 : MS), (f_X11_cloud μ p1 p2) = f_X11_cloud_183 μ p1 p2 v4_183 μ_183 → ∀ (H : Heap) (locs : List Loc) (ls : Array Slot), HM D a mo μ_183 s.heap H locs → lv_has ls 6 [(4, .int v4_183)] → W p l e R s m args below meth c H locs 0 0 Q (F0 m 183 ls []) := by
    intro v4_183 μ_183 hf H locs ls hM hl
    refine lv_iload hx hb dX11_cloud_183 (lv_at hl 0 rfl) ?_
    exact ret _ _ _ _ _ _ hM dX11_cloud_185 hf
  have J_147 : ∀ (v4_147 : Int32) (v5_147 : Int32) (μ_147 : MS), (f_X11_cloud μ p1 p2) = f_X11_cloud_147 μ p1 p2 v4_147 v5_147 μ_147 → of_X11_cloud_147 μ p1 p2 v4_147 v5_147 μ_147 → ∀ (H : Heap) (locs : List Loc) (ls : Array Slot), HM D a mo μ_147 s.heap H locs → lv_has ls 6 [(0, .ref mo), (1, .int p1), (4, .int v4_147), (5, .int v5_147)] → W p l e R s m args below meth c H locs 0 0 Q (F0 m 147 ls []) := by
    intro v4_147 v5_147 μ_147 hf hok H locs ls hM hl
    refine itr_W (f := (s_X11_cloud_147 p1 μ_147)) (o := (os_X11_cloud_147 p1 μ_147)) (fun (v : Int32 × Int32) => ∀ (ls : Array Slot), lv_has ls 6 [(0, .ref mo), (1, .int p1), (4, .int v.1), (5, .int v.2)] → W p l e R s m args below meth c H locs 0 0 Q (F0 m 147 ls [])) (fun (v : Int32 × Int32) => ∀ (ls : Array Slot), lv_has ls 6 [(4, .int v.1)] → W p l e R s m args below meth c H locs 0 0 Q (F0 m 183 ls [])) ?_ FU (v4_147, v5_147) (And.left hok) ?_ ls (lv_sub hl [0, 1, 2, 3] rfl)
    · intro v hov kc ke
      obtain ⟨w4_147, w5_147⟩ := v
      have hok : ob_X11_cloud_147 p1 μ_147 w4_147 w5_147 := hov
      change ∀ v', (b_X11_cloud_147 p1 μ_147 w4_147 w5_147) = (true, v') → _ at kc
      change ∀ v', (b_X11_cloud_147 p1 μ_147 w4_147 w5_147) = (false, v') → _ at ke
      have hf : (b_X11_cloud_147 p1 μ_147 w4_147 w5_147) = (b_X11_cloud_147 p1 μ_147 w4_147 w5_147) := rfl
      intro ls hl
      have J_l147_174 : ∀ (v5_174 : Int32) (t0_174 : Int32) (t1_174 : Int32), (b_X11_cloud_147 p1 μ_147 w4_147 w5_147) = f_X11_cloud_l147_174 p1 μ_147 w4_147 w5_147 v5_174 t0_174 t1_174 → ∀ (ls : Array Slot), lv_has ls 6 [(0, .ref mo), (1, .int p1), (5, .int v5_174)] → W p l e R s m args below meth c H locs 0 0 Q (F0 m 174 ls [.int t0_174, .int t1_174]) := by
        intro v5_174 t0_174 t1_174 hf ls hl
        refine lv_iadd hx hb dX11_cloud_174 ?_
        refine lv_istore (lv' := [(4, .int (t1_174 + t0_174)), (0, .ref mo), (1, .int p1), (5, .int v5_174)]) hx hb dX11_cloud_175 hl (by decide) rfl (fun ls hl => ?_)
        refine lv_iinc (v := (v5_174 + 1)) (lv' := [(5, .int (v5_174 + 1)), (4, .int (t1_174 + t0_174)), (0, .ref mo), (1, .int p1)]) hx hb dX11_cloud_177 hl (k := 3) rfl rfl (by decide) rfl (fun ls hl => ?_)
        refine lv_goto (tgt := 147) hx hb dX11_cloud_180 (by decide) ?_
        exact kc ((t1_174 + t0_174), (v5_174 + 1)) hf ls (lv_sub hl [2, 3, 1, 0] rfl)
      refine lv_iload hx hb dX11_cloud_147 (lv_at hl 3 rfl) ?_
      refine lv_aload_n hx hb dX11_cloud_149 rfl (lv_at hl 0 rfl) ?_
      refine mg_clouds C hM dX11_cloud_150 ?_
      refine lv_icmp_ge (tgt := 183) hx hb dX11_cloud_153 (by decide) (fun c_16 => ?_) (fun c_16 => ?_)
      · have hf := hf.trans (if_pos c_16)
        have hok := oif_pos hok c_16
        exact ke (w4_147, w5_147) hf ls (lv_sub hl [2] rfl)
      · have hf := hf.trans (if_neg c_16)
        have hok := oif_neg hok c_16
        refine lv_iload hx hb dX11_cloud_156 (lv_at hl 2 rfl) ?_
        refine lv_aload_n hx hb dX11_cloud_158 rfl (lv_at hl 0 rfl) ?_
        refine mg_cloudCameras C hM dX11_cloud_159 ?_
        refine lv_iload hx hb dX11_cloud_162 (lv_at hl 3 rfl) ?_
        have ok_17 := And.left hok
        have hok := And.right hok
        refine ma_cloudCameras C hM ok_17 dX11_cloud_164 ?_
        refine lv_iload_n hx hb dX11_cloud_165 rfl (lv_at hl 1 rfl) ?_
        refine lv_icmp_ne (tgt := 173) hx hb dX11_cloud_166 (by decide) (fun c_18 => ?_) (fun c_18 => ?_)
        · have hf := hf.trans (if_neg c_18)
          refine lv_iconst (v := 0) hx hb dX11_cloud_173 (by decide) ?_
          exact J_l147_174 w5_147 0 w4_147 hf ls (lv_sub hl [0, 1, 3] rfl)
        · have hf := hf.trans (if_pos c_18)
          refine lv_iconst (v := 1) hx hb dX11_cloud_169 (by decide) ?_
          refine lv_goto (tgt := 174) hx hb dX11_cloud_170 (by decide) ?_
          exact J_l147_174 w5_147 1 w4_147 hf ls (lv_sub hl [0, 1, 3] rfl)
    · have hok := And.right hok
      intro ls hl
      exact J_183 ((itr (s_X11_cloud_147 p1 μ_147) FU (v4_147, v5_147)).1) μ_147 hf _ _ ls hM (lv_sub hl [0] rfl)
  have J_99 : ∀ (t0_99 : Int32), (f_X11_cloud μ p1 p2) = f_X11_cloud_99 μ p1 p2 t0_99 → of_X11_cloud_99 μ p1 p2 t0_99 → ∀ (ls : Array Slot), lv_has ls 6 [(0, .ref mo), (1, .int p1), (2, .int p2)] → W p l e R s m args below meth c s.heap [] 0 0 Q (F0 m 99 ls [.int t0_99, .ref mo]) := by
    intro t0_99 hf hok ls hl
    refine mp_thrown C hM dX11_cloud_99 (fun H locs hM => ?_)
    refine lv_aload_n hx hb dX11_cloud_102 rfl (lv_at hl 0 rfl) ?_
    refine mg_thrown C hM dX11_cloud_103 ?_
    refine lv_if_le (tgt := 111) hx hb dX11_cloud_106 (by decide) (fun c_13 => ?_) (fun c_13 => ?_)
    · have hf := hf.trans (if_pos c_13)
      have hok := oif_pos hok c_13
      refine lv_aload_n hx hb dX11_cloud_111 rfl (lv_at hl 0 rfl) ?_
      refine mg_cloudCameras C hM dX11_cloud_112 ?_
      refine lv_aload_n hx hb dX11_cloud_115 rfl (lv_at hl 0 rfl) ?_
      refine mg_clouds C hM dX11_cloud_116 ?_
      refine lv_iload_n hx hb dX11_cloud_119 rfl (lv_at hl 1 rfl) ?_
      have ok_14 := And.left hok
      have hok := And.right hok
      refine ms_cloudCameras C hM ok_14 dX11_cloud_120 (fun H locs hM => ?_)
      refine lv_aload_n hx hb dX11_cloud_121 rfl (lv_at hl 0 rfl) ?_
      refine mg_cloudNights C hM dX11_cloud_122 ?_
      refine lv_aload_n hx hb dX11_cloud_125 rfl (lv_at hl 0 rfl) ?_
      refine mg_clouds C hM dX11_cloud_126 ?_
      refine lv_iload_n hx hb dX11_cloud_129 rfl (lv_at hl 2 rfl) ?_
      have ok_15 := And.left hok
      have hok := And.right hok
      refine ms_cloudNights C hM ok_15 dX11_cloud_130 (fun H locs hM => ?_)
      refine lv_aload_n hx hb dX11_cloud_131 rfl (lv_at hl 0 rfl) ?_
      refine lv_dup hx hb dX11_cloud_132 rfl ?_
      refine mg_clouds C hM dX11_cloud_133 ?_
      refine lv_iconst (v := 1) hx hb dX11_cloud_136 (by decide) ?_
      refine lv_iadd hx hb dX11_cloud_137 ?_
      refine mp_clouds C hM dX11_cloud_138 (fun H locs hM => ?_)
      refine lv_iconst (v := 0) hx hb dX11_cloud_141 (by decide) ?_
      refine lv_istore (lv' := [(4, .int 0), (0, .ref mo), (1, .int p1), (2, .int p2)]) hx hb dX11_cloud_142 hl (by decide) rfl (fun ls hl => ?_)
      refine lv_iconst (v := 0) hx hb dX11_cloud_144 (by decide) ?_
      refine lv_istore (lv' := [(5, .int 0), (4, .int 0), (0, .ref mo), (1, .int p1), (2, .int p2)]) hx hb dX11_cloud_145 hl (by decide) rfl (fun ls hl => ?_)
      exact J_147 0 0 (mI (mI (mI (mI μ 0 0 t0_99) 6 (ix (mi μ 5 0)) p1) 7 (ix (mi μ 5 0)) p2) 5 0 ((mi μ 5 0) + 1)) hf hok _ _ ls hM (lv_sub hl [2, 3, 1, 0] rfl)
    · have hf := hf.trans (if_neg c_13)
      have hok := oif_neg hok c_13
      refine lv_iconst (v := 0) hx hb dX11_cloud_109 (by decide) ?_
      exact ret _ _ _ _ _ _ hM dX11_cloud_110 hf
  have J_57 : ∀ (v3_57 : Int32), (f_X11_cloud μ p1 p2) = f_X11_cloud_57 μ p1 p2 v3_57 → of_X11_cloud_57 μ p1 p2 v3_57 → ∀ (ls : Array Slot), lv_has ls 6 [(0, .ref mo), (1, .int p1), (2, .int p2), (3, .int v3_57)] → W p l e R s m args below meth c s.heap [] 0 0 Q (F0 m 57 ls []) := by
    intro v3_57 hf hok ls hl
    refine lv_aload_n hx hb dX11_cloud_57 rfl (lv_at hl 0 rfl) ?_
    refine lv_aload_n hx hb dX11_cloud_58 rfl (lv_at hl 0 rfl) ?_
    refine lv_iload_n hx hb dX11_cloud_59 rfl (lv_at hl 1 rfl) ?_
    have ok_8 := And.left hok
    have hok := And.right hok
    refine cc_R (av := [.int p1]) C hM (k_X11_isCamera l D a mo μ p1 ok_8) cw_X11_165 (okR_of hRf hRl (Nat.le_of_ble_eq_true rfl) (Nat.le_of_ble_eq_true rfl)) rfl rfl hl.1 (Nat.le_of_ble_eq_true rfl) (Nat.zero_le _) (Nat.zero_le _) dX11_cloud_60 ?_
    refine lv_if_ne (tgt := 70) hx hb dX11_cloud_63 (by decide) (fun c_9 => ?_) (fun c_9 => ?_)
    · have hf := hf.trans (if_neg c_9)
      have hok := oif_neg hok c_9
      refine lv_iload_n hx hb dX11_cloud_70 rfl (lv_at hl 2 rfl) ?_
      have ok_10 := And.left hok
      have hok := And.right hok
      refine cc_S (av := [.int p2]) C (k_X11_isNight l D a p2 ok_10) cw_X11_179 (okR_of hRf hRl (Nat.le_of_ble_eq_true rfl) (Nat.le_of_ble_eq_true rfl)) rfl rfl hl.1 (Nat.le_of_ble_eq_true rfl) (Nat.zero_le _) (Nat.zero_le _) dX11_cloud_71 ?_
      refine lv_if_ne (tgt := 81) hx hb dX11_cloud_74 (by decide) (fun c_11 => ?_) (fun c_11 => ?_)
      · have hf := hf.trans (if_neg c_11)
        have hok := oif_neg hok c_11
        refine lv_iload_n hx hb dX11_cloud_81 rfl (lv_at hl 3 rfl) ?_
        refine lv_if_ne (tgt := 94) hx hb dX11_cloud_82 (by decide) (fun c_12 => ?_) (fun c_12 => ?_)
        · have hf := hf.trans (if_neg c_12)
          have hok := oif_neg hok c_12
          refine lv_iconst (v := 3) hx hb dX11_cloud_94 (by decide) ?_
          refine lv_goto (tgt := 99) hx hb dX11_cloud_95 (by decide) ?_
          exact J_99 3 hf hok ls (lv_sub hl [0, 1, 2] rfl)
        · have hf := hf.trans (if_pos c_12)
          have hok := oif_pos hok c_12
          refine lv_aload_n hx hb dX11_cloud_85 rfl (lv_at hl 0 rfl) ?_
          refine mg_clouds C hM dX11_cloud_86 ?_
          refine lv_bipush (v := 50) hx hb dX11_cloud_89 (by decide) ?_
          refine lv_icmp_ne (tgt := 98) hx hb dX11_cloud_91 (by decide) (fun c_19 => ?_) (fun c_19 => ?_)
          · have hf := hf.trans (if_neg c_19)
            have hok := oif_neg hok c_19
            refine lv_iconst (v := 0) hx hb dX11_cloud_98 (by decide) ?_
            exact J_99 0 hf hok ls (lv_sub hl [0, 1, 2] rfl)
          · have hf := hf.trans (if_pos c_19)
            have hok := oif_pos hok c_19
            refine lv_iconst (v := 3) hx hb dX11_cloud_94 (by decide) ?_
            refine lv_goto (tgt := 99) hx hb dX11_cloud_95 (by decide) ?_
            exact J_99 3 hf hok ls (lv_sub hl [0, 1, 2] rfl)
      · have hf := hf.trans (if_pos c_11)
        have hok := oif_pos hok c_11
        refine lv_iconst (v := 2) hx hb dX11_cloud_77 (by decide) ?_
        refine lv_goto (tgt := 99) hx hb dX11_cloud_78 (by decide) ?_
        exact J_99 2 hf hok ls (lv_sub hl [0, 1, 2] rfl)
    · have hf := hf.trans (if_pos c_9)
      have hok := oif_pos hok c_9
      refine lv_iconst (v := 1) hx hb dX11_cloud_66 (by decide) ?_
      refine lv_goto (tgt := 99) hx hb dX11_cloud_67 (by decide) ?_
      exact J_99 1 hf hok ls (lv_sub hl [0, 1, 2] rfl)
  have J_10 : ∀ (v3_10 : Int32) (v4_10 : Int32), (f_X11_cloud μ p1 p2) = f_X11_cloud_10 μ p1 p2 v3_10 v4_10 → of_X11_cloud_10 μ p1 p2 v3_10 v4_10 → ∀ (ls : Array Slot), lv_has ls 6 [(0, .ref mo), (1, .int p1), (2, .int p2), (3, .int v3_10), (4, .int v4_10)] → W p l e R s m args below meth c s.heap [] 0 0 Q (F0 m 10 ls []) := by
    intro v3_10 v4_10 hf hok ls hl
    refine itr_W (f := (s_X11_cloud_10 p1 p2 μ)) (o := (os_X11_cloud_10 p1 p2 μ)) (fun (v : Int32 × Int32) => ∀ (ls : Array Slot), lv_has ls 6 [(0, .ref mo), (1, .int p1), (2, .int p2), (3, .int v.1), (4, .int v.2)] → W p l e R s m args below meth c s.heap [] 0 0 Q (F0 m 10 ls [])) (fun (v : Int32 × Int32) => ∀ (ls : Array Slot), lv_has ls 6 [(0, .ref mo), (1, .int p1), (2, .int p2), (3, .int v.1)] → W p l e R s m args below meth c s.heap [] 0 0 Q (F0 m 57 ls [])) ?_ FU (v3_10, v4_10) (And.left hok) ?_ ls (lv_sub hl [0, 1, 2, 3, 4] rfl)
    · intro v hov kc ke
      obtain ⟨w3_10, w4_10⟩ := v
      have hok : ob_X11_cloud_10 p1 p2 μ w3_10 w4_10 := hov
      change ∀ v', (b_X11_cloud_10 p1 p2 μ w3_10 w4_10) = (true, v') → _ at kc
      change ∀ v', (b_X11_cloud_10 p1 p2 μ w3_10 w4_10) = (false, v') → _ at ke
      have hf : (b_X11_cloud_10 p1 p2 μ w3_10 w4_10) = (b_X11_cloud_10 p1 p2 μ w3_10 w4_10) := rfl
      intro ls hl
      have J_l10_50 : ∀ (v4_50 : Int32) (t0_50 : Int32), (b_X11_cloud_10 p1 p2 μ w3_10 w4_10) = f_X11_cloud_l10_50 p1 p2 μ w3_10 w4_10 v4_50 t0_50 → ∀ (ls : Array Slot), lv_has ls 6 [(0, .ref mo), (1, .int p1), (2, .int p2), (4, .int v4_50)] → W p l e R s m args below meth c s.heap [] 0 0 Q (F0 m 50 ls [.int t0_50]) := by
        intro v4_50 t0_50 hf ls hl
        refine lv_istore_n (lv' := [(3, .int t0_50), (0, .ref mo), (1, .int p1), (2, .int p2), (4, .int v4_50)]) hx hb dX11_cloud_50 rfl hl (by decide) rfl (fun ls hl => ?_)
        refine lv_iinc (v := (v4_50 + 1)) (lv' := [(4, .int (v4_50 + 1)), (3, .int t0_50), (0, .ref mo), (1, .int p1), (2, .int p2)]) hx hb dX11_cloud_51 hl (k := 4) rfl rfl (by decide) rfl (fun ls hl => ?_)
        refine lv_goto (tgt := 10) hx hb dX11_cloud_54 (by decide) ?_
        exact kc (t0_50, (v4_50 + 1)) hf ls (lv_sub hl [2, 3, 4, 1, 0] rfl)
      refine lv_iload hx hb dX11_cloud_10 (lv_at hl 4 rfl) ?_
      refine lv_aload_n hx hb dX11_cloud_12 rfl (lv_at hl 0 rfl) ?_
      refine mg_sightings C hM dX11_cloud_13 ?_
      refine lv_icmp_ge (tgt := 57) hx hb dX11_cloud_16 (by decide) (fun c_2 => ?_) (fun c_2 => ?_)
      · have hf := hf.trans (if_pos c_2)
        have hok := oif_pos hok c_2
        exact ke (w3_10, w4_10) hf ls (lv_sub hl [0, 1, 2, 3] rfl)
      · have hf := hf.trans (if_neg c_2)
        have hok := oif_neg hok c_2
        refine lv_iload_n hx hb dX11_cloud_19 rfl (lv_at hl 3 rfl) ?_
        refine lv_if_ne (tgt := 45) hx hb dX11_cloud_20 (by decide) (fun c_3 => ?_) (fun c_3 => ?_)
        · have hf := hf.trans (if_neg c_3)
          have hok := oif_neg hok c_3
          refine lv_iconst (v := 1) hx hb dX11_cloud_45 (by decide) ?_
          refine lv_goto (tgt := 50) hx hb dX11_cloud_46 (by decide) ?_
          exact J_l10_50 w4_10 1 hf ls (lv_sub hl [0, 1, 2, 4] rfl)
        · have hf := hf.trans (if_pos c_3)
          have hok := oif_pos hok c_3
          refine lv_aload_n hx hb dX11_cloud_23 rfl (lv_at hl 0 rfl) ?_
          refine mg_ofCamera C hM dX11_cloud_24 ?_
          refine lv_iload hx hb dX11_cloud_27 (lv_at hl 4 rfl) ?_
          have ok_4 := And.left hok
          have hok := And.right hok
          refine ma_ofCamera C hM ok_4 dX11_cloud_29 ?_
          refine lv_iload_n hx hb dX11_cloud_30 rfl (lv_at hl 1 rfl) ?_
          refine lv_icmp_ne (tgt := 49) hx hb dX11_cloud_31 (by decide) (fun c_5 => ?_) (fun c_5 => ?_)
          · have hf := hf.trans (if_neg c_5)
            have hok := oif_neg hok c_5
            refine lv_iconst (v := 0) hx hb dX11_cloud_49 (by decide) ?_
            exact J_l10_50 w4_10 0 hf ls (lv_sub hl [0, 1, 2, 4] rfl)
          · have hf := hf.trans (if_pos c_5)
            have hok := oif_pos hok c_5
            refine lv_aload_n hx hb dX11_cloud_34 rfl (lv_at hl 0 rfl) ?_
            refine mg_nights C hM dX11_cloud_35 ?_
            refine lv_iload hx hb dX11_cloud_38 (lv_at hl 4 rfl) ?_
            have ok_6 := And.left hok
            have hok := And.right hok
            refine ma_nights C hM ok_6 dX11_cloud_40 ?_
            refine lv_iload_n hx hb dX11_cloud_41 rfl (lv_at hl 2 rfl) ?_
            refine lv_icmp_ne (tgt := 49) hx hb dX11_cloud_42 (by decide) (fun c_7 => ?_) (fun c_7 => ?_)
            · have hf := hf.trans (if_neg c_7)
              refine lv_iconst (v := 0) hx hb dX11_cloud_49 (by decide) ?_
              exact J_l10_50 w4_10 0 hf ls (lv_sub hl [0, 1, 2, 4] rfl)
            · have hf := hf.trans (if_pos c_7)
              refine lv_iconst (v := 1) hx hb dX11_cloud_45 (by decide) ?_
              refine lv_goto (tgt := 50) hx hb dX11_cloud_46 (by decide) ?_
              exact J_l10_50 w4_10 1 hf ls (lv_sub hl [0, 1, 2, 4] rfl)
    · have hok := And.right hok
      intro ls hl
      exact J_57 ((itr (s_X11_cloud_10 p1 p2 μ) FU (v3_10, v4_10)).1) hf hok ls (lv_sub hl [0, 1, 2, 3] rfl)
  refine lv_aload_n hx hb dX11_cloud_0 rfl (lv_at hl 0 rfl) ?_
  refine lv_iload_n hx hb dX11_cloud_1 rfl (lv_at hl 1 rfl) ?_
  refine lv_iload_n hx hb dX11_cloud_2 rfl (lv_at hl 2 rfl) ?_
  have ok_1 := And.left hok
  have hok := And.right hok
  refine cc_R (av := [.int p1, .int p2]) C hM (k_X11_isCloudy l D a mo μ p1 p2 ok_1) cw_X11_172 (okR_of hRf hRl (Nat.le_of_ble_eq_true rfl) (Nat.le_of_ble_eq_true rfl)) rfl rfl hl.1 (Nat.le_of_ble_eq_true rfl) (Nat.zero_le _) (Nat.zero_le _) dX11_cloud_3 ?_
  refine lv_istore_n (lv' := [(3, .int (f_X11_isCloudy μ p1 p2)), (0, .ref mo), (1, .int p1), (2, .int p2)]) hx hb dX11_cloud_6 rfl hl (by decide) rfl (fun ls hl => ?_)
  refine lv_iconst (v := 0) hx hb dX11_cloud_7 (by decide) ?_
  refine lv_istore (lv' := [(4, .int 0), (3, .int (f_X11_isCloudy μ p1 p2)), (0, .ref mo), (1, .int p1), (2, .int p2)]) hx hb dX11_cloud_8 hl (by decide) rfl (fun ls hl => ?_)
  exact J_10 (f_X11_isCloudy μ p1 p2) 0 hf hok ls (lv_sub hl [2, 3, 4, 1, 0] rfl)
def f_X11_begin_83 (μ : MS) (p1 : Int32) (p2 : Int32) (p3 : Int32) (p4 : Int32) (p5 : Int32) (t0_83 : Int32) : MS := (if t0_83 = 0 then (mI (mI (mI (mI (mI (mI μ 0 0 t0_83) 8 0 p1) 9 0 p2) 10 0 p3) 11 0 p4) 12 0 p5) else (mI μ 0 0 t0_83))
def f_X11_begin_45 (μ : MS) (p1 : Int32) (p2 : Int32) (p3 : Int32) (p4 : Int32) (p5 : Int32) (t0_45 : Int32) : MS := (if (f_X11_isCamera μ p1) = 0 then (f_X11_begin_83 μ p1 p2 p3 p4 p5 1) else (if t0_45 = 0 then (f_X11_begin_83 μ p1 p2 p3 p4 p5 2) else (if (f_X11_isCloudy μ p1 p2) = 0 then (f_X11_begin_83 μ p1 p2 p3 p4 p5 0) else (f_X11_begin_83 μ p1 p2 p3 p4 p5 3))))
def of_X11_begin_45 (μ : MS) (p1 : Int32) (p2 : Int32) (p3 : Int32) (p4 : Int32) (p5 : Int32) (t0_45 : Int32) : Prop := (of_X11_isCamera μ p1 ∧ (oif ((f_X11_isCamera μ p1) = 0) True (oif (t0_45 = 0) True (of_X11_isCloudy μ p1 p2 ∧ True))))
def f_X11_begin (μ : MS) (p1 : Int32) (p2 : Int32) (p3 : Int32) (p4 : Int32) (p5 : Int32) : MS := (if (f_X11_isNight p2) = 0 then (f_X11_begin_45 μ p1 p2 p3 p4 p5 0) else (if (f_X11_isIn p3 0 86399) = 0 then (f_X11_begin_45 μ p1 p2 p3 p4 p5 0) else (if (f_X11_isIn p4 1 60) = 0 then (f_X11_begin_45 μ p1 p2 p3 p4 p5 0) else (if (f_X11_isIn p5 1 1000) = 0 then (f_X11_begin_45 μ p1 p2 p3 p4 p5 0) else (f_X11_begin_45 μ p1 p2 p3 p4 p5 1)))))
def of_X11_begin (μ : MS) (p1 : Int32) (p2 : Int32) (p3 : Int32) (p4 : Int32) (p5 : Int32) : Prop := (of_X11_isNight p2 ∧ (oif ((f_X11_isNight p2) = 0) (of_X11_begin_45 μ p1 p2 p3 p4 p5 0) (oif ((f_X11_isIn p3 0 86399) = 0) (of_X11_begin_45 μ p1 p2 p3 p4 p5 0) (oif ((f_X11_isIn p4 1 60) = 0) (of_X11_begin_45 μ p1 p2 p3 p4 p5 0) (oif ((f_X11_isIn p5 1 1000) = 0) (of_X11_begin_45 μ p1 p2 p3 p4 p5 0) (of_X11_begin_45 μ p1 p2 p3 p4 p5 1))))))
set_option maxHeartbeats 4000000 in
set_option maxRecDepth 100000 in
theorem k_X11_begin (l : Launch) (D : va_G) (a : Nat → ClassId) (mo : Nat) (μ : MS) (p1 : Int32) (p2 : Int32) (p3 : Int32) (p4 : Int32) (p5 : Int32) (hok : of_X11_begin μ p1 p2 p3 p4 p5) : KM l D a mo yX11_begin cX11_begin 7 none 2 43 [.int p1, .int p2, .int p3, .int p4, .int p5] μ none (f_X11_begin μ p1 p2 p3 p4 p5) := by
  refine goMv (by decide +kernel) (Nat.le_of_ble_eq_true rfl) ?_
  intro p e s m args below meth c ls R Q hRf hRl C hl hB
  obtain ⟨hM, ret⟩ := hB
  have hl : lv_has ls 7 [(0, .ref mo), (1, .int p1), (2, .int p2), (3, .int p3), (4, .int p4), (5, .int p5)] := hl
  have hx := C.1.1
  have hb := C.1.2.1
  have hts := C.1.2.2.2.2
  have hown := C.1.2.2.2.1
  have hf : (f_X11_begin μ p1 p2 p3 p4 p5) = (f_X11_begin μ p1 p2 p3 p4 p5) := rfl
  have J_83 : ∀ (t0_83 : Int32), (f_X11_begin μ p1 p2 p3 p4 p5) = f_X11_begin_83 μ p1 p2 p3 p4 p5 t0_83 → ∀ (ls : Array Slot), lv_has ls 7 [(0, .ref mo), (1, .int p1), (2, .int p2), (3, .int p3), (4, .int p4), (5, .int p5)] → W p l e R s m args below meth c s.heap [] 0 0 Q (F0 m 83 ls [.int t0_83, .ref mo]) := by
    intro t0_83 hf ls hl
    refine mp_thrown C hM dX11_begin_83 (fun H locs hM => ?_)
    refine lv_aload_n hx hb dX11_begin_86 rfl (lv_at hl 0 rfl) ?_
    refine mg_thrown C hM dX11_begin_87 ?_
    refine lv_if_ne (tgt := 120) hx hb dX11_begin_90 (by decide) (fun c_8 => ?_) (fun c_8 => ?_)
    · have hf := hf.trans (if_neg c_8)
      exact ret _ _ _ _ _ hM dX11_begin_120 hf
    · have hf := hf.trans (if_pos c_8)
      refine lv_aload_n hx hb dX11_begin_93 rfl (lv_at hl 0 rfl) ?_
      refine lv_iload_n hx hb dX11_begin_94 rfl (lv_at hl 1 rfl) ?_
      refine mp_begun C hM dX11_begin_95 (fun H locs hM => ?_)
      refine lv_aload_n hx hb dX11_begin_98 rfl (lv_at hl 0 rfl) ?_
      refine lv_iload_n hx hb dX11_begin_99 rfl (lv_at hl 2 rfl) ?_
      refine mp_begunNight C hM dX11_begin_100 (fun H locs hM => ?_)
      refine lv_aload_n hx hb dX11_begin_103 rfl (lv_at hl 0 rfl) ?_
      refine lv_iload_n hx hb dX11_begin_104 rfl (lv_at hl 3 rfl) ?_
      refine mp_begunSecond C hM dX11_begin_105 (fun H locs hM => ?_)
      refine lv_aload_n hx hb dX11_begin_108 rfl (lv_at hl 0 rfl) ?_
      refine lv_iload hx hb dX11_begin_109 (lv_at hl 4 rfl) ?_
      refine mp_begunLength C hM dX11_begin_111 (fun H locs hM => ?_)
      refine lv_aload_n hx hb dX11_begin_114 rfl (lv_at hl 0 rfl) ?_
      refine lv_iload hx hb dX11_begin_115 (lv_at hl 5 rfl) ?_
      refine mp_begunLight C hM dX11_begin_117 (fun H locs hM => ?_)
      exact ret _ _ _ _ _ hM dX11_begin_120 hf
  have J_45 : ∀ (t0_45 : Int32), (f_X11_begin μ p1 p2 p3 p4 p5) = f_X11_begin_45 μ p1 p2 p3 p4 p5 t0_45 → of_X11_begin_45 μ p1 p2 p3 p4 p5 t0_45 → ∀ (ls : Array Slot), lv_has ls 7 [(0, .ref mo), (1, .int p1), (2, .int p2), (3, .int p3), (4, .int p4), (5, .int p5)] → W p l e R s m args below meth c s.heap [] 0 0 Q (F0 m 45 ls [.int t0_45]) := by
    intro t0_45 hf hok ls hl
    refine lv_istore (lv' := [(6, .int t0_45), (0, .ref mo), (1, .int p1), (2, .int p2), (3, .int p3), (4, .int p4), (5, .int p5)]) hx hb dX11_begin_45 hl (by decide) rfl (fun ls hl => ?_)
    refine lv_aload_n hx hb dX11_begin_47 rfl (lv_at hl 1 rfl) ?_
    refine lv_aload_n hx hb dX11_begin_48 rfl (lv_at hl 1 rfl) ?_
    refine lv_iload_n hx hb dX11_begin_49 rfl (lv_at hl 2 rfl) ?_
    have ok_3 := And.left hok
    have hok := And.right hok
    refine cc_R (av := [.int p1]) C hM (k_X11_isCamera l D a mo μ p1 ok_3) cw_X11_165 (okR_of hRf hRl (Nat.le_of_ble_eq_true rfl) (Nat.le_of_ble_eq_true rfl)) rfl rfl hl.1 (Nat.le_of_ble_eq_true rfl) (Nat.zero_le _) (Nat.zero_le _) dX11_begin_50 ?_
    refine lv_if_ne (tgt := 60) hx hb dX11_begin_53 (by decide) (fun c_4 => ?_) (fun c_4 => ?_)
    · have hf := hf.trans (if_neg c_4)
      have hok := oif_neg hok c_4
      refine lv_iload hx hb dX11_begin_60 (lv_at hl 0 rfl) ?_
      refine lv_if_ne (tgt := 69) hx hb dX11_begin_62 (by decide) (fun c_5 => ?_) (fun c_5 => ?_)
      · have hf := hf.trans (if_neg c_5)
        have hok := oif_neg hok c_5
        refine lv_aload_n hx hb dX11_begin_69 rfl (lv_at hl 1 rfl) ?_
        refine lv_iload_n hx hb dX11_begin_70 rfl (lv_at hl 2 rfl) ?_
        refine lv_iload_n hx hb dX11_begin_71 rfl (lv_at hl 3 rfl) ?_
        have ok_6 := And.left hok
        have hok := And.right hok
        refine cc_R (av := [.int p1, .int p2]) C hM (k_X11_isCloudy l D a mo μ p1 p2 ok_6) cw_X11_172 (okR_of hRf hRl (Nat.le_of_ble_eq_true rfl) (Nat.le_of_ble_eq_true rfl)) rfl rfl hl.1 (Nat.le_of_ble_eq_true rfl) (Nat.zero_le _) (Nat.zero_le _) dX11_begin_72 ?_
        refine lv_if_eq (tgt := 82) hx hb dX11_begin_75 (by decide) (fun c_7 => ?_) (fun c_7 => ?_)
        · have hf := hf.trans (if_pos c_7)
          refine lv_iconst (v := 0) hx hb dX11_begin_82 (by decide) ?_
          exact J_83 0 hf ls (lv_sub hl [1, 2, 3, 4, 5, 6] rfl)
        · have hf := hf.trans (if_neg c_7)
          refine lv_iconst (v := 3) hx hb dX11_begin_78 (by decide) ?_
          refine lv_goto (tgt := 83) hx hb dX11_begin_79 (by decide) ?_
          exact J_83 3 hf ls (lv_sub hl [1, 2, 3, 4, 5, 6] rfl)
      · have hf := hf.trans (if_pos c_5)
        have hok := oif_pos hok c_5
        refine lv_iconst (v := 2) hx hb dX11_begin_65 (by decide) ?_
        refine lv_goto (tgt := 83) hx hb dX11_begin_66 (by decide) ?_
        exact J_83 2 hf ls (lv_sub hl [1, 2, 3, 4, 5, 6] rfl)
    · have hf := hf.trans (if_pos c_4)
      have hok := oif_pos hok c_4
      refine lv_iconst (v := 1) hx hb dX11_begin_56 (by decide) ?_
      refine lv_goto (tgt := 83) hx hb dX11_begin_57 (by decide) ?_
      exact J_83 1 hf ls (lv_sub hl [1, 2, 3, 4, 5, 6] rfl)
  refine lv_iload_n hx hb dX11_begin_0 rfl (lv_at hl 2 rfl) ?_
  have ok_1 := And.left hok
  have hok := And.right hok
  refine cc_S (av := [.int p2]) C (k_X11_isNight l D a p2 ok_1) cw_X11_179 (okR_of hRf hRl (Nat.le_of_ble_eq_true rfl) (Nat.le_of_ble_eq_true rfl)) rfl rfl hl.1 (Nat.le_of_ble_eq_true rfl) (Nat.zero_le _) (Nat.zero_le _) dX11_begin_1 ?_
  refine lv_if_eq (tgt := 44) hx hb dX11_begin_4 (by decide) (fun c_2 => ?_) (fun c_2 => ?_)
  · have hf := hf.trans (if_pos c_2)
    have hok := oif_pos hok c_2
    refine lv_iconst (v := 0) hx hb dX11_begin_44 (by decide) ?_
    exact J_45 0 hf hok ls (lv_sub hl [0, 1, 2, 3, 4, 5] rfl)
  · have hf := hf.trans (if_neg c_2)
    have hok := oif_neg hok c_2
    refine lv_iload_n hx hb dX11_begin_7 rfl (lv_at hl 3 rfl) ?_
    refine lv_iconst (v := 0) hx hb dX11_begin_8 (by decide) ?_
    refine lv_ldc (v := 86399) hx hb hown (hts _ q_1414) dX11_begin_9 ?_
    refine cc_S (av := [.int p3, .int 0, .int 86399]) C (k_X11_isIn l D a p3 0 86399) cw_X11_158 (okR_of hRf hRl (Nat.le_of_ble_eq_true rfl) (Nat.le_of_ble_eq_true rfl)) rfl rfl hl.1 (Nat.le_of_ble_eq_true rfl) (Nat.zero_le _) (Nat.zero_le _) dX11_begin_11 ?_
    refine lv_if_eq (tgt := 44) hx hb dX11_begin_14 (by decide) (fun c_9 => ?_) (fun c_9 => ?_)
    · have hf := hf.trans (if_pos c_9)
      have hok := oif_pos hok c_9
      refine lv_iconst (v := 0) hx hb dX11_begin_44 (by decide) ?_
      exact J_45 0 hf hok ls (lv_sub hl [0, 1, 2, 3, 4, 5] rfl)
    · have hf := hf.trans (if_neg c_9)
      have hok := oif_neg hok c_9
      refine lv_iload hx hb dX11_begin_17 (lv_at hl 4 rfl) ?_
      refine lv_iconst (v := 1) hx hb dX11_begin_19 (by decide) ?_
      refine lv_bipush (v := 60) hx hb dX11_begin_20 (by decide) ?_
      refine cc_S (av := [.int p4, .int 1, .int 60]) C (k_X11_isIn l D a p4 1 60) cw_X11_158 (okR_of hRf hRl (Nat.le_of_ble_eq_true rfl) (Nat.le_of_ble_eq_true rfl)) rfl rfl hl.1 (Nat.le_of_ble_eq_true rfl) (Nat.zero_le _) (Nat.zero_le _) dX11_begin_22 ?_
      refine lv_if_eq (tgt := 44) hx hb dX11_begin_25 (by decide) (fun c_10 => ?_) (fun c_10 => ?_)
      · have hf := hf.trans (if_pos c_10)
        have hok := oif_pos hok c_10
        refine lv_iconst (v := 0) hx hb dX11_begin_44 (by decide) ?_
        exact J_45 0 hf hok ls (lv_sub hl [0, 1, 2, 3, 4, 5] rfl)
      · have hf := hf.trans (if_neg c_10)
        have hok := oif_neg hok c_10
        refine lv_iload hx hb dX11_begin_28 (lv_at hl 5 rfl) ?_
        refine lv_iconst (v := 1) hx hb dX11_begin_30 (by decide) ?_
        refine lv_sipush (v := 1000) hx hb dX11_begin_31 (by decide) ?_
        refine cc_S (av := [.int p5, .int 1, .int 1000]) C (k_X11_isIn l D a p5 1 1000) cw_X11_158 (okR_of hRf hRl (Nat.le_of_ble_eq_true rfl) (Nat.le_of_ble_eq_true rfl)) rfl rfl hl.1 (Nat.le_of_ble_eq_true rfl) (Nat.zero_le _) (Nat.zero_le _) dX11_begin_34 ?_
        refine lv_if_eq (tgt := 44) hx hb dX11_begin_37 (by decide) (fun c_11 => ?_) (fun c_11 => ?_)
        · have hf := hf.trans (if_pos c_11)
          have hok := oif_pos hok c_11
          refine lv_iconst (v := 0) hx hb dX11_begin_44 (by decide) ?_
          exact J_45 0 hf hok ls (lv_sub hl [0, 1, 2, 3, 4, 5] rfl)
        · have hf := hf.trans (if_neg c_11)
          have hok := oif_neg hok c_11
          refine lv_iconst (v := 1) hx hb dX11_begin_40 (by decide) ?_
          refine lv_goto (tgt := 45) hx hb dX11_begin_41 (by decide) ?_
          exact J_45 1 hf hok ls (lv_sub hl [0, 1, 2, 3, 4, 5] rfl)
def f_X11_isDirection (p1 : Int32) (p2 : Int32) : Int32 := (if (f_X11_isIn p1 (-100) 100) = 0 then 0 else (if (f_X11_isIn p2 (-100) 100) = 0 then 0 else (if p1 = 0 then (if p2 = 0 then 0 else 1) else 1)))
set_option maxHeartbeats 4000000 in
set_option maxRecDepth 100000 in
theorem k_X11_isDirection (l : Launch) (D : va_G) (a : Nat → ClassId) (p1 : Int32) (p2 : Int32) : K0 l yX11_isDirection cX11_isDirection 2 ((some .boolean)) 1 22 [.int p1, .int p2] (BK D a) (.int (f_X11_isDirection p1 p2)) := by
  refine go0z (D := D) (a := a) (by decide +kernel) (fun _ h => h) (Nat.le_of_ble_eq_true rfl) ?_
  intro p e s m args below meth c ls R Q hRf hRl C hl hB
  obtain ⟨-, ret⟩ := hB
  have hl : lv_has ls 2 [(0, .int p1), (1, .int p2)] := hl
  have hx := C.1.1
  have hb := C.1.2.1
  have hts := C.1.2.2.2.2
  have hown := C.1.2.2.2.1
  have hf : (f_X11_isDirection p1 p2) = (f_X11_isDirection p1 p2) := rfl
  refine lv_iload_n hx hb dX11_isDirection_0 rfl (lv_at hl 0 rfl) ?_
  refine lv_bipush (v := (-100)) hx hb dX11_isDirection_1 (by decide) ?_
  refine lv_bipush (v := 100) hx hb dX11_isDirection_3 (by decide) ?_
  refine cc_S (av := [.int p1, .int (-100), .int 100]) C (k_X11_isIn l D a p1 (-100) 100) cw_X11_158 (okR_of hRf hRl (Nat.le_of_ble_eq_true rfl) (Nat.le_of_ble_eq_true rfl)) rfl rfl hl.1 (Nat.le_of_ble_eq_true rfl) (Nat.zero_le _) (Nat.zero_le _) dX11_isDirection_5 ?_
  refine lv_if_eq (tgt := 34) hx hb dX11_isDirection_8 (by decide) (fun c_1 => ?_) (fun c_1 => ?_)
  · have hf := hf.trans (if_pos c_1)
    refine lv_iconst (v := 0) hx hb dX11_isDirection_34 (by decide) ?_
    exact ret _ _ _ dX11_isDirection_35 (by unfold zb; decide) hf
  · have hf := hf.trans (if_neg c_1)
    refine lv_iload_n hx hb dX11_isDirection_11 rfl (lv_at hl 1 rfl) ?_
    refine lv_bipush (v := (-100)) hx hb dX11_isDirection_12 (by decide) ?_
    refine lv_bipush (v := 100) hx hb dX11_isDirection_14 (by decide) ?_
    refine cc_S (av := [.int p2, .int (-100), .int 100]) C (k_X11_isIn l D a p2 (-100) 100) cw_X11_158 (okR_of hRf hRl (Nat.le_of_ble_eq_true rfl) (Nat.le_of_ble_eq_true rfl)) rfl rfl hl.1 (Nat.le_of_ble_eq_true rfl) (Nat.zero_le _) (Nat.zero_le _) dX11_isDirection_16 ?_
    refine lv_if_eq (tgt := 34) hx hb dX11_isDirection_19 (by decide) (fun c_2 => ?_) (fun c_2 => ?_)
    · have hf := hf.trans (if_pos c_2)
      refine lv_iconst (v := 0) hx hb dX11_isDirection_34 (by decide) ?_
      exact ret _ _ _ dX11_isDirection_35 (by unfold zb; decide) hf
    · have hf := hf.trans (if_neg c_2)
      refine lv_iload_n hx hb dX11_isDirection_22 rfl (lv_at hl 0 rfl) ?_
      refine lv_if_ne (tgt := 30) hx hb dX11_isDirection_23 (by decide) (fun c_3 => ?_) (fun c_3 => ?_)
      · have hf := hf.trans (if_neg c_3)
        refine lv_iconst (v := 1) hx hb dX11_isDirection_30 (by decide) ?_
        refine lv_goto (tgt := 35) hx hb dX11_isDirection_31 (by decide) ?_
        exact ret _ _ _ dX11_isDirection_35 (by unfold zb; decide) hf
      · have hf := hf.trans (if_pos c_3)
        refine lv_iload_n hx hb dX11_isDirection_26 rfl (lv_at hl 1 rfl) ?_
        refine lv_if_eq (tgt := 34) hx hb dX11_isDirection_27 (by decide) (fun c_4 => ?_) (fun c_4 => ?_)
        · have hf := hf.trans (if_pos c_4)
          refine lv_iconst (v := 0) hx hb dX11_isDirection_34 (by decide) ?_
          exact ret _ _ _ dX11_isDirection_35 (by unfold zb; decide) hf
        · have hf := hf.trans (if_neg c_4)
          refine lv_iconst (v := 1) hx hb dX11_isDirection_30 (by decide) ?_
          refine lv_goto (tgt := 35) hx hb dX11_isDirection_31 (by decide) ?_
          exact ret _ _ _ dX11_isDirection_35 (by unfold zb; decide) hf
def f_X11_end_190 (μ : MS) (p1 : Int32) (p2 : Int32) (p3 : Int32) (p4 : Int32) (μ_190 : MS) : Int32 × MS := ((((mi μ_190 13 0) + 1) - 1), (mI (mI (mI μ_190 22 (ix (mi μ_190 13 0)) p4) 8 0 (-1)) 13 0 ((mi μ_190 13 0) + 1)))
def of_X11_end_190 (μ : MS) (p1 : Int32) (p2 : Int32) (p3 : Int32) (p4 : Int32) (μ_190 : MS) : Prop := (vp_in (mi μ_190 13 0) 60 ∧ True)
def f_X11_end_147 (μ : MS) (p1 : Int32) (p2 : Int32) (p3 : Int32) (p4 : Int32) (μ_147 : MS) : Int32 × MS := (f_X11_end_190 μ p1 p2 p3 p4 (mI (mI (mI (mI μ_147 18 (ix (mi μ_147 13 0)) (mi μ_147 12 0)) 19 (ix (mi μ_147 13 0)) p1) 20 (ix (mi μ_147 13 0)) p2) 21 (ix (mi μ_147 13 0)) p3))
def of_X11_end_147 (μ : MS) (p1 : Int32) (p2 : Int32) (p3 : Int32) (p4 : Int32) (μ_147 : MS) : Prop := (vp_in (mi μ_147 13 0) 60 ∧ (vp_in (mi μ_147 13 0) 60 ∧ (vp_in (mi μ_147 13 0) 60 ∧ (vp_in (mi μ_147 13 0) 60 ∧ (of_X11_end_190 μ p1 p2 p3 p4 (mI (mI (mI (mI μ_147 18 (ix (mi μ_147 13 0)) (mi μ_147 12 0)) 19 (ix (mi μ_147 13 0)) p1) 20 (ix (mi μ_147 13 0)) p2) 21 (ix (mi μ_147 13 0)) p3))))))
def f_X11_end_83 (μ : MS) (p1 : Int32) (p2 : Int32) (p3 : Int32) (p4 : Int32) (t0_83 : Int32) : Int32 × MS := (if t0_83 ≤ 0 then (f_X11_end_147 μ p1 p2 p3 p4 (mI (mI (mI (mI (mI μ 0 0 t0_83) 14 (ix (mi μ 13 0)) (mi μ 8 0)) 15 (ix (mi μ 13 0)) (mi μ 9 0)) 16 (ix (mi μ 13 0)) (mi μ 10 0)) 17 (ix (mi μ 13 0)) (mi μ 11 0))) else (0, (mI μ 0 0 t0_83)))
def of_X11_end_83 (μ : MS) (p1 : Int32) (p2 : Int32) (p3 : Int32) (p4 : Int32) (t0_83 : Int32) : Prop := (oif (t0_83 ≤ 0) (vp_in (mi μ 13 0) 60 ∧ (vp_in (mi μ 13 0) 60 ∧ (vp_in (mi μ 13 0) 60 ∧ (vp_in (mi μ 13 0) 60 ∧ (of_X11_end_147 μ p1 p2 p3 p4 (mI (mI (mI (mI (mI μ 0 0 t0_83) 14 (ix (mi μ 13 0)) (mi μ 8 0)) 15 (ix (mi μ 13 0)) (mi μ 9 0)) 16 (ix (mi μ 13 0)) (mi μ 10 0)) 17 (ix (mi μ 13 0)) (mi μ 11 0))))))) True)
def f_X11_end_61 (μ : MS) (p1 : Int32) (p2 : Int32) (p3 : Int32) (p4 : Int32) (v5_61 : Int32) (t0_61 : Int32) : Int32 × MS := (if v5_61 = 0 then (f_X11_end_83 μ p1 p2 p3 p4 1) else (if t0_61 = 0 then (f_X11_end_83 μ p1 p2 p3 p4 2) else (f_X11_end_83 μ p1 p2 p3 p4 0)))
def of_X11_end_61 (μ : MS) (p1 : Int32) (p2 : Int32) (p3 : Int32) (p4 : Int32) (v5_61 : Int32) (t0_61 : Int32) : Prop := (oif (v5_61 = 0) (of_X11_end_83 μ p1 p2 p3 p4 1) (oif (t0_61 = 0) (of_X11_end_83 μ p1 p2 p3 p4 2) (of_X11_end_83 μ p1 p2 p3 p4 0)))
def f_X11_end_22 (μ : MS) (p1 : Int32) (p2 : Int32) (p3 : Int32) (p4 : Int32) (t0_22 : Int32) : Int32 × MS := (if (mi μ 8 0) = (-1) then (f_X11_end_61 μ p1 p2 p3 p4 t0_22 0) else (if (f_X11_isCloudy μ (mi μ 8 0) (mi μ 9 0)) = 0 then (if 60 ≤ (mi μ 13 0) then (f_X11_end_61 μ p1 p2 p3 p4 t0_22 0) else (f_X11_end_61 μ p1 p2 p3 p4 t0_22 1)) else (f_X11_end_61 μ p1 p2 p3 p4 t0_22 0)))
def of_X11_end_22 (μ : MS) (p1 : Int32) (p2 : Int32) (p3 : Int32) (p4 : Int32) (t0_22 : Int32) : Prop := (oif ((mi μ 8 0) = (-1)) (of_X11_end_61 μ p1 p2 p3 p4 t0_22 0) (of_X11_isCloudy μ (mi μ 8 0) (mi μ 9 0) ∧ (oif ((f_X11_isCloudy μ (mi μ 8 0) (mi μ 9 0)) = 0) (oif (60 ≤ (mi μ 13 0)) (of_X11_end_61 μ p1 p2 p3 p4 t0_22 0) (of_X11_end_61 μ p1 p2 p3 p4 t0_22 1)) (of_X11_end_61 μ p1 p2 p3 p4 t0_22 0))))
def f_X11_end (μ : MS) (p1 : Int32) (p2 : Int32) (p3 : Int32) (p4 : Int32) : Int32 × MS := (if (f_X11_isDirection p1 p2) = 0 then (f_X11_end_22 μ p1 p2 p3 p4 0) else (if (f_X11_isDirection p3 p4) = 0 then (f_X11_end_22 μ p1 p2 p3 p4 0) else (f_X11_end_22 μ p1 p2 p3 p4 1)))
def of_X11_end (μ : MS) (p1 : Int32) (p2 : Int32) (p3 : Int32) (p4 : Int32) : Prop := (oif ((f_X11_isDirection p1 p2) = 0) (of_X11_end_22 μ p1 p2 p3 p4 0) (oif ((f_X11_isDirection p3 p4) = 0) (of_X11_end_22 μ p1 p2 p3 p4 0) (of_X11_end_22 μ p1 p2 p3 p4 1)))
set_option maxHeartbeats 4000000 in
set_option maxRecDepth 100000 in
theorem k_X11_end (l : Launch) (D : va_G) (a : Nat → ClassId) (mo : Nat) (μ : MS) (p1 : Int32) (p2 : Int32) (p3 : Int32) (p4 : Int32) (hok : of_X11_end μ p1 p2 p3 p4) : KM l D a mo yX11_end cX11_end 7 ((some .int)) 2 43 [.int p1, .int p2, .int p3, .int p4] μ (some (.int (f_X11_end μ p1 p2 p3 p4).1)) (f_X11_end μ p1 p2 p3 p4).2 := by
  refine goMi (by decide +kernel) (Nat.le_of_ble_eq_true rfl) ?_
  intro p e s m args below meth c ls R Q hRf hRl C hl hB
  obtain ⟨hM, ret⟩ := hB
  have hl : lv_has ls 7 [(0, .ref mo), (1, .int p1), (2, .int p2), (3, .int p3), (4, .int p4)] := hl
  have hx := C.1.1
  have hb := C.1.2.1
  have hts := C.1.2.2.2.2
  have hown := C.1.2.2.2.1
  have hf : (f_X11_end μ p1 p2 p3 p4) = (f_X11_end μ p1 p2 p3 p4) := rfl
  have J_190 : ∀ (μ_190 : MS), (f_X11_end μ p1 p2 p3 p4) = f_X11_end_190 μ p1 p2 p3 p4 μ_190 → of_X11_end_190 μ p1 p2 p3 p4 μ_190 → ∀ (H : Heap) (locs : List Loc) (ls : Array Slot), HM D a mo μ_190 s.heap H locs → lv_has ls 7 [(0, .ref mo), (4, .int p4)] → W p l e R s m args below meth c H locs 0 0 Q (F0 m 190 ls []) := by
    intro μ_190 hf hok H locs ls hM hl
    refine lv_aload_n hx hb dX11_end_190 rfl (lv_at hl 0 rfl) ?_
    refine mg_endY C hM dX11_end_191 ?_
    refine lv_aload_n hx hb dX11_end_194 rfl (lv_at hl 0 rfl) ?_
    refine mg_sightings C hM dX11_end_195 ?_
    refine lv_iload hx hb dX11_end_198 (lv_at hl 1 rfl) ?_
    have ok_14 := And.left hok
    have hok := And.right hok
    refine ms_endY C hM ok_14 dX11_end_200 (fun H locs hM => ?_)
    refine lv_aload_n hx hb dX11_end_201 rfl (lv_at hl 0 rfl) ?_
    refine lv_iconst (v := (-1)) hx hb dX11_end_202 (by decide) ?_
    refine mp_begun C hM dX11_end_203 (fun H locs hM => ?_)
    refine lv_aload_n hx hb dX11_end_206 rfl (lv_at hl 0 rfl) ?_
    refine lv_dup hx hb dX11_end_207 rfl ?_
    refine mg_sightings C hM dX11_end_208 ?_
    refine lv_iconst (v := 1) hx hb dX11_end_211 (by decide) ?_
    refine lv_iadd hx hb dX11_end_212 ?_
    refine mp_sightings C hM dX11_end_213 (fun H locs hM => ?_)
    refine lv_aload_n hx hb dX11_end_216 rfl (lv_at hl 0 rfl) ?_
    refine mg_sightings C hM dX11_end_217 ?_
    refine lv_iconst (v := 1) hx hb dX11_end_220 (by decide) ?_
    refine lv_isub hx hb dX11_end_221 ?_
    exact ret _ _ _ _ _ _ hM dX11_end_222 hf
  have J_147 : ∀ (μ_147 : MS), (f_X11_end μ p1 p2 p3 p4) = f_X11_end_147 μ p1 p2 p3 p4 μ_147 → of_X11_end_147 μ p1 p2 p3 p4 μ_147 → ∀ (H : Heap) (locs : List Loc) (ls : Array Slot), HM D a mo μ_147 s.heap H locs → lv_has ls 7 [(0, .ref mo), (1, .int p1), (2, .int p2), (3, .int p3), (4, .int p4)] → W p l e R s m args below meth c H locs 0 0 Q (F0 m 147 ls []) := by
    intro μ_147 hf hok H locs ls hM hl
    refine lv_aload_n hx hb dX11_end_147 rfl (lv_at hl 0 rfl) ?_
    refine mg_lights C hM dX11_end_148 ?_
    refine lv_aload_n hx hb dX11_end_151 rfl (lv_at hl 0 rfl) ?_
    refine mg_sightings C hM dX11_end_152 ?_
    refine lv_aload_n hx hb dX11_end_155 rfl (lv_at hl 0 rfl) ?_
    refine mg_begunLight C hM dX11_end_156 ?_
    have ok_10 := And.left hok
    have hok := And.right hok
    refine ms_lights C hM ok_10 dX11_end_159 (fun H locs hM => ?_)
    refine lv_aload_n hx hb dX11_end_160 rfl (lv_at hl 0 rfl) ?_
    refine mg_beginX C hM dX11_end_161 ?_
    refine lv_aload_n hx hb dX11_end_164 rfl (lv_at hl 0 rfl) ?_
    refine mg_sightings C hM dX11_end_165 ?_
    refine lv_iload_n hx hb dX11_end_168 rfl (lv_at hl 1 rfl) ?_
    have ok_11 := And.left hok
    have hok := And.right hok
    refine ms_beginX C hM ok_11 dX11_end_169 (fun H locs hM => ?_)
    refine lv_aload_n hx hb dX11_end_170 rfl (lv_at hl 0 rfl) ?_
    refine mg_beginY C hM dX11_end_171 ?_
    refine lv_aload_n hx hb dX11_end_174 rfl (lv_at hl 0 rfl) ?_
    refine mg_sightings C hM dX11_end_175 ?_
    refine lv_iload_n hx hb dX11_end_178 rfl (lv_at hl 2 rfl) ?_
    have ok_12 := And.left hok
    have hok := And.right hok
    refine ms_beginY C hM ok_12 dX11_end_179 (fun H locs hM => ?_)
    refine lv_aload_n hx hb dX11_end_180 rfl (lv_at hl 0 rfl) ?_
    refine mg_endX C hM dX11_end_181 ?_
    refine lv_aload_n hx hb dX11_end_184 rfl (lv_at hl 0 rfl) ?_
    refine mg_sightings C hM dX11_end_185 ?_
    refine lv_iload_n hx hb dX11_end_188 rfl (lv_at hl 3 rfl) ?_
    have ok_13 := And.left hok
    have hok := And.right hok
    refine ms_endX C hM ok_13 dX11_end_189 (fun H locs hM => ?_)
    exact J_190 (mI (mI (mI (mI μ_147 18 (ix (mi μ_147 13 0)) (mi μ_147 12 0)) 19 (ix (mi μ_147 13 0)) p1) 20 (ix (mi μ_147 13 0)) p2) 21 (ix (mi μ_147 13 0)) p3) hf hok _ _ ls hM (lv_sub hl [0, 4] rfl)
  have J_83 : ∀ (t0_83 : Int32), (f_X11_end μ p1 p2 p3 p4) = f_X11_end_83 μ p1 p2 p3 p4 t0_83 → of_X11_end_83 μ p1 p2 p3 p4 t0_83 → ∀ (ls : Array Slot), lv_has ls 7 [(0, .ref mo), (1, .int p1), (2, .int p2), (3, .int p3), (4, .int p4)] → W p l e R s m args below meth c s.heap [] 0 0 Q (F0 m 83 ls [.int t0_83, .ref mo]) := by
    intro t0_83 hf hok ls hl
    refine mp_thrown C hM dX11_end_83 (fun H locs hM => ?_)
    refine lv_aload_n hx hb dX11_end_86 rfl (lv_at hl 0 rfl) ?_
    refine mg_thrown C hM dX11_end_87 ?_
    refine lv_if_le (tgt := 95) hx hb dX11_end_90 (by decide) (fun c_5 => ?_) (fun c_5 => ?_)
    · have hf := hf.trans (if_pos c_5)
      have hok := oif_pos hok c_5
      refine lv_aload_n hx hb dX11_end_95 rfl (lv_at hl 0 rfl) ?_
      refine mg_ofCamera C hM dX11_end_96 ?_
      refine lv_aload_n hx hb dX11_end_99 rfl (lv_at hl 0 rfl) ?_
      refine mg_sightings C hM dX11_end_100 ?_
      refine lv_aload_n hx hb dX11_end_103 rfl (lv_at hl 0 rfl) ?_
      refine mg_begun C hM dX11_end_104 ?_
      have ok_6 := And.left hok
      have hok := And.right hok
      refine ms_ofCamera C hM ok_6 dX11_end_107 (fun H locs hM => ?_)
      refine lv_aload_n hx hb dX11_end_108 rfl (lv_at hl 0 rfl) ?_
      refine mg_nights C hM dX11_end_109 ?_
      refine lv_aload_n hx hb dX11_end_112 rfl (lv_at hl 0 rfl) ?_
      refine mg_sightings C hM dX11_end_113 ?_
      refine lv_aload_n hx hb dX11_end_116 rfl (lv_at hl 0 rfl) ?_
      refine mg_begunNight C hM dX11_end_117 ?_
      have ok_7 := And.left hok
      have hok := And.right hok
      refine ms_nights C hM ok_7 dX11_end_120 (fun H locs hM => ?_)
      refine lv_aload_n hx hb dX11_end_121 rfl (lv_at hl 0 rfl) ?_
      refine mg_seconds C hM dX11_end_122 ?_
      refine lv_aload_n hx hb dX11_end_125 rfl (lv_at hl 0 rfl) ?_
      refine mg_sightings C hM dX11_end_126 ?_
      refine lv_aload_n hx hb dX11_end_129 rfl (lv_at hl 0 rfl) ?_
      refine mg_begunSecond C hM dX11_end_130 ?_
      have ok_8 := And.left hok
      have hok := And.right hok
      refine ms_seconds C hM ok_8 dX11_end_133 (fun H locs hM => ?_)
      refine lv_aload_n hx hb dX11_end_134 rfl (lv_at hl 0 rfl) ?_
      refine mg_lengths C hM dX11_end_135 ?_
      refine lv_aload_n hx hb dX11_end_138 rfl (lv_at hl 0 rfl) ?_
      refine mg_sightings C hM dX11_end_139 ?_
      refine lv_aload_n hx hb dX11_end_142 rfl (lv_at hl 0 rfl) ?_
      refine mg_begunLength C hM dX11_end_143 ?_
      have ok_9 := And.left hok
      have hok := And.right hok
      refine ms_lengths C hM ok_9 dX11_end_146 (fun H locs hM => ?_)
      exact J_147 (mI (mI (mI (mI (mI μ 0 0 t0_83) 14 (ix (mi μ 13 0)) (mi μ 8 0)) 15 (ix (mi μ 13 0)) (mi μ 9 0)) 16 (ix (mi μ 13 0)) (mi μ 10 0)) 17 (ix (mi μ 13 0)) (mi μ 11 0)) hf hok _ _ ls hM (lv_sub hl [0, 1, 2, 3, 4] rfl)
    · have hf := hf.trans (if_neg c_5)
      have hok := oif_neg hok c_5
      refine lv_iconst (v := 0) hx hb dX11_end_93 (by decide) ?_
      exact ret _ _ _ _ _ _ hM dX11_end_94 hf
  have J_61 : ∀ (v5_61 : Int32) (t0_61 : Int32), (f_X11_end μ p1 p2 p3 p4) = f_X11_end_61 μ p1 p2 p3 p4 v5_61 t0_61 → of_X11_end_61 μ p1 p2 p3 p4 v5_61 t0_61 → ∀ (ls : Array Slot), lv_has ls 7 [(0, .ref mo), (1, .int p1), (2, .int p2), (3, .int p3), (4, .int p4), (5, .int v5_61)] → W p l e R s m args below meth c s.heap [] 0 0 Q (F0 m 61 ls [.int t0_61]) := by
    intro v5_61 t0_61 hf hok ls hl
    refine lv_istore (lv' := [(6, .int t0_61), (0, .ref mo), (1, .int p1), (2, .int p2), (3, .int p3), (4, .int p4), (5, .int v5_61)]) hx hb dX11_end_61 hl (by decide) rfl (fun ls hl => ?_)
    refine lv_aload_n hx hb dX11_end_63 rfl (lv_at hl 1 rfl) ?_
    refine lv_iload hx hb dX11_end_64 (lv_at hl 6 rfl) ?_
    refine lv_if_ne (tgt := 73) hx hb dX11_end_66 (by decide) (fun c_3 => ?_) (fun c_3 => ?_)
    · have hf := hf.trans (if_neg c_3)
      have hok := oif_neg hok c_3
      refine lv_iload hx hb dX11_end_73 (lv_at hl 0 rfl) ?_
      refine lv_if_eq (tgt := 82) hx hb dX11_end_75 (by decide) (fun c_4 => ?_) (fun c_4 => ?_)
      · have hf := hf.trans (if_pos c_4)
        have hok := oif_pos hok c_4
        refine lv_iconst (v := 2) hx hb dX11_end_82 (by decide) ?_
        exact J_83 2 hf hok ls (lv_sub hl [1, 2, 3, 4, 5] rfl)
      · have hf := hf.trans (if_neg c_4)
        have hok := oif_neg hok c_4
        refine lv_iconst (v := 0) hx hb dX11_end_78 (by decide) ?_
        refine lv_goto (tgt := 83) hx hb dX11_end_79 (by decide) ?_
        exact J_83 0 hf hok ls (lv_sub hl [1, 2, 3, 4, 5] rfl)
    · have hf := hf.trans (if_pos c_3)
      have hok := oif_pos hok c_3
      refine lv_iconst (v := 1) hx hb dX11_end_69 (by decide) ?_
      refine lv_goto (tgt := 83) hx hb dX11_end_70 (by decide) ?_
      exact J_83 1 hf hok ls (lv_sub hl [1, 2, 3, 4, 5] rfl)
  have J_22 : ∀ (t0_22 : Int32), (f_X11_end μ p1 p2 p3 p4) = f_X11_end_22 μ p1 p2 p3 p4 t0_22 → of_X11_end_22 μ p1 p2 p3 p4 t0_22 → ∀ (ls : Array Slot), lv_has ls 7 [(0, .ref mo), (1, .int p1), (2, .int p2), (3, .int p3), (4, .int p4)] → W p l e R s m args below meth c s.heap [] 0 0 Q (F0 m 22 ls [.int t0_22]) := by
    intro t0_22 hf hok ls hl
    refine lv_istore (lv' := [(5, .int t0_22), (0, .ref mo), (1, .int p1), (2, .int p2), (3, .int p3), (4, .int p4)]) hx hb dX11_end_22 hl (by decide) rfl (fun ls hl => ?_)
    refine lv_aload_n hx hb dX11_end_24 rfl (lv_at hl 1 rfl) ?_
    refine mg_begun C hM dX11_end_25 ?_
    refine lv_iconst (v := (-1)) hx hb dX11_end_28 (by decide) ?_
    refine lv_icmp_eq (tgt := 60) hx hb dX11_end_29 (by decide) (fun c_2 => ?_) (fun c_2 => ?_)
    · have hf := hf.trans (if_pos c_2)
      have hok := oif_pos hok c_2
      refine lv_iconst (v := 0) hx hb dX11_end_60 (by decide) ?_
      exact J_61 t0_22 0 hf hok ls (lv_sub hl [1, 2, 3, 4, 5, 0] rfl)
    · have hf := hf.trans (if_neg c_2)
      have hok := oif_neg hok c_2
      refine lv_aload_n hx hb dX11_end_32 rfl (lv_at hl 1 rfl) ?_
      refine lv_aload_n hx hb dX11_end_33 rfl (lv_at hl 1 rfl) ?_
      refine mg_begun C hM dX11_end_34 ?_
      refine lv_aload_n hx hb dX11_end_37 rfl (lv_at hl 1 rfl) ?_
      refine mg_begunNight C hM dX11_end_38 ?_
      have ok_15 := And.left hok
      have hok := And.right hok
      refine cc_R (av := [.int (mi μ 8 0), .int (mi μ 9 0)]) C hM (k_X11_isCloudy l D a mo μ (mi μ 8 0) (mi μ 9 0) ok_15) cw_X11_172 (okR_of hRf hRl (Nat.le_of_ble_eq_true rfl) (Nat.le_of_ble_eq_true rfl)) rfl rfl hl.1 (Nat.le_of_ble_eq_true rfl) (Nat.zero_le _) (Nat.zero_le _) dX11_end_41 ?_
      refine lv_if_ne (tgt := 60) hx hb dX11_end_44 (by decide) (fun c_16 => ?_) (fun c_16 => ?_)
      · have hf := hf.trans (if_neg c_16)
        have hok := oif_neg hok c_16
        refine lv_iconst (v := 0) hx hb dX11_end_60 (by decide) ?_
        exact J_61 t0_22 0 hf hok ls (lv_sub hl [1, 2, 3, 4, 5, 0] rfl)
      · have hf := hf.trans (if_pos c_16)
        have hok := oif_pos hok c_16
        refine lv_aload_n hx hb dX11_end_47 rfl (lv_at hl 1 rfl) ?_
        refine mg_sightings C hM dX11_end_48 ?_
        refine lv_bipush (v := 60) hx hb dX11_end_51 (by decide) ?_
        refine lv_icmp_ge (tgt := 60) hx hb dX11_end_53 (by decide) (fun c_17 => ?_) (fun c_17 => ?_)
        · have hf := hf.trans (if_pos c_17)
          have hok := oif_pos hok c_17
          refine lv_iconst (v := 0) hx hb dX11_end_60 (by decide) ?_
          exact J_61 t0_22 0 hf hok ls (lv_sub hl [1, 2, 3, 4, 5, 0] rfl)
        · have hf := hf.trans (if_neg c_17)
          have hok := oif_neg hok c_17
          refine lv_iconst (v := 1) hx hb dX11_end_56 (by decide) ?_
          refine lv_goto (tgt := 61) hx hb dX11_end_57 (by decide) ?_
          exact J_61 t0_22 1 hf hok ls (lv_sub hl [1, 2, 3, 4, 5, 0] rfl)
  refine lv_iload_n hx hb dX11_end_0 rfl (lv_at hl 1 rfl) ?_
  refine lv_iload_n hx hb dX11_end_1 rfl (lv_at hl 2 rfl) ?_
  refine cc_S (av := [.int p1, .int p2]) C (k_X11_isDirection l D a p1 p2) cw_X11_195 (okR_of hRf hRl (Nat.le_of_ble_eq_true rfl) (Nat.le_of_ble_eq_true rfl)) rfl rfl hl.1 (Nat.le_of_ble_eq_true rfl) (Nat.zero_le _) (Nat.zero_le _) dX11_end_2 ?_
  refine lv_if_eq (tgt := 21) hx hb dX11_end_5 (by decide) (fun c_1 => ?_) (fun c_1 => ?_)
  · have hf := hf.trans (if_pos c_1)
    have hok := oif_pos hok c_1
    refine lv_iconst (v := 0) hx hb dX11_end_21 (by decide) ?_
    exact J_22 0 hf hok ls (lv_sub hl [0, 1, 2, 3, 4] rfl)
  · have hf := hf.trans (if_neg c_1)
    have hok := oif_neg hok c_1
    refine lv_iload_n hx hb dX11_end_8 rfl (lv_at hl 3 rfl) ?_
    refine lv_iload hx hb dX11_end_9 (lv_at hl 4 rfl) ?_
    refine cc_S (av := [.int p3, .int p4]) C (k_X11_isDirection l D a p3 p4) cw_X11_195 (okR_of hRf hRl (Nat.le_of_ble_eq_true rfl) (Nat.le_of_ble_eq_true rfl)) rfl rfl hl.1 (Nat.le_of_ble_eq_true rfl) (Nat.zero_le _) (Nat.zero_le _) dX11_end_11 ?_
    refine lv_if_eq (tgt := 21) hx hb dX11_end_14 (by decide) (fun c_18 => ?_) (fun c_18 => ?_)
    · have hf := hf.trans (if_pos c_18)
      have hok := oif_pos hok c_18
      refine lv_iconst (v := 0) hx hb dX11_end_21 (by decide) ?_
      exact J_22 0 hf hok ls (lv_sub hl [0, 1, 2, 3, 4] rfl)
    · have hf := hf.trans (if_neg c_18)
      have hok := oif_neg hok c_18
      refine lv_iconst (v := 1) hx hb dX11_end_17 (by decide) ?_
      refine lv_goto (tgt := 22) hx hb dX11_end_18 (by decide) ?_
      exact J_22 1 hf hok ls (lv_sub hl [0, 1, 2, 3, 4] rfl)
def f_X11_cross_162 (μ : MS) (p1 : Int32) (p2 : Int32) (p3 : Int32) (p4 : Int32) (p5 : Int32) (p6 : Int32) (v7_162 : Int64) (v13_162 : Int64) (μ_162 : MS) : Int32 × MS := (1, (mL μ_162 26 0 (f_X11_down (100 * ((((mi μ_162 3 (ix p1)).toInt64) * v7_162) + (v13_162 * p3.toInt64))) v7_162)))
def of_X11_cross_162 (μ : MS) (p1 : Int32) (p2 : Int32) (p3 : Int32) (p4 : Int32) (p5 : Int32) (p6 : Int32) (v7_162 : Int64) (v13_162 : Int64) (μ_162 : MS) : Prop := (vp_in p1 10 ∧ (of_X11_down (100 * ((((mi μ_162 3 (ix p1)).toInt64) * v7_162) + (v13_162 * p3.toInt64))) v7_162 ∧ True))
def f_X11_cross_110 (μ : MS) (p1 : Int32) (p2 : Int32) (p3 : Int32) (p4 : Int32) (p5 : Int32) (p6 : Int32) (v7_110 : Int64) (v11_110 : Int64) (v13_110 : Int64) (v15_110 : Int64) : Int32 × MS := (if (lg_cmp v13_110 0) ≤ 0 then (0, μ) else (if 0 < (lg_cmp v15_110 0) then (f_X11_cross_162 μ p1 p2 p3 p4 p5 p6 (v7_110 * v11_110) v13_110 (mL μ 25 0 (f_X11_down (100 * ((((mi μ 2 (ix p1)).toInt64) * (v7_110 * v11_110)) + (v13_110 * p2.toInt64))) (v7_110 * v11_110)))) else (0, μ)))
def of_X11_cross_110 (μ : MS) (p1 : Int32) (p2 : Int32) (p3 : Int32) (p4 : Int32) (p5 : Int32) (p6 : Int32) (v7_110 : Int64) (v11_110 : Int64) (v13_110 : Int64) (v15_110 : Int64) : Prop := (oif ((lg_cmp v13_110 0) ≤ 0) True (oif (0 < (lg_cmp v15_110 0)) (vp_in p1 10 ∧ (of_X11_down (100 * ((((mi μ 2 (ix p1)).toInt64) * (v7_110 * v11_110)) + (v13_110 * p2.toInt64))) (v7_110 * v11_110) ∧ (of_X11_cross_162 μ p1 p2 p3 p4 p5 p6 (v7_110 * v11_110) v13_110 (mL μ 25 0 (f_X11_down (100 * ((((mi μ 2 (ix p1)).toInt64) * (v7_110 * v11_110)) + (v13_110 * p2.toInt64))) (v7_110 * v11_110)))))) True))
def f_X11_cross_70 (μ : MS) (p1 : Int32) (p2 : Int32) (p3 : Int32) (p4 : Int32) (p5 : Int32) (p6 : Int32) (v7_70 : Int64) (v9_70 : Int32) (v10_70 : Int32) (t0_70 : Int64) : Int32 × MS := (f_X11_cross_110 μ p1 p2 p3 p4 p5 p6 v7_70 t0_70 (t0_70 * ((v9_70.toInt64 * p6.toInt64) - (v10_70.toInt64 * p5.toInt64))) (t0_70 * ((v9_70.toInt64 * p3.toInt64) - (v10_70.toInt64 * p2.toInt64))))
def of_X11_cross_70 (μ : MS) (p1 : Int32) (p2 : Int32) (p3 : Int32) (p4 : Int32) (p5 : Int32) (p6 : Int32) (v7_70 : Int64) (v9_70 : Int32) (v10_70 : Int32) (t0_70 : Int64) : Prop := (of_X11_cross_110 μ p1 p2 p3 p4 p5 p6 v7_70 t0_70 (t0_70 * ((v9_70.toInt64 * p6.toInt64) - (v10_70.toInt64 * p5.toInt64))) (t0_70 * ((v9_70.toInt64 * p3.toInt64) - (v10_70.toInt64 * p2.toInt64))))
def f_X11_cross (μ : MS) (p1 : Int32) (p2 : Int32) (p3 : Int32) (p4 : Int32) (p5 : Int32) (p6 : Int32) : Int32 × MS := (if (lg_cmp ((p2.toInt64 * p6.toInt64) - (p3.toInt64 * p5.toInt64)) 0) = 0 then (0, μ) else (if (lg_cmp ((p2.toInt64 * p6.toInt64) - (p3.toInt64 * p5.toInt64)) 0) ≤ 0 then (f_X11_cross_70 μ p1 p2 p3 p4 p5 p6 ((p2.toInt64 * p6.toInt64) - (p3.toInt64 * p5.toInt64)) ((mi μ 2 (ix p4)) - (mi μ 2 (ix p1))) ((mi μ 3 (ix p4)) - (mi μ 3 (ix p1))) (-1)) else (f_X11_cross_70 μ p1 p2 p3 p4 p5 p6 ((p2.toInt64 * p6.toInt64) - (p3.toInt64 * p5.toInt64)) ((mi μ 2 (ix p4)) - (mi μ 2 (ix p1))) ((mi μ 3 (ix p4)) - (mi μ 3 (ix p1))) 1)))
def of_X11_cross (μ : MS) (p1 : Int32) (p2 : Int32) (p3 : Int32) (p4 : Int32) (p5 : Int32) (p6 : Int32) : Prop := (oif ((lg_cmp ((p2.toInt64 * p6.toInt64) - (p3.toInt64 * p5.toInt64)) 0) = 0) True (vp_in p4 10 ∧ (vp_in p1 10 ∧ (vp_in p4 10 ∧ (vp_in p1 10 ∧ (oif ((lg_cmp ((p2.toInt64 * p6.toInt64) - (p3.toInt64 * p5.toInt64)) 0) ≤ 0) (of_X11_cross_70 μ p1 p2 p3 p4 p5 p6 ((p2.toInt64 * p6.toInt64) - (p3.toInt64 * p5.toInt64)) ((mi μ 2 (ix p4)) - (mi μ 2 (ix p1))) ((mi μ 3 (ix p4)) - (mi μ 3 (ix p1))) (-1)) (of_X11_cross_70 μ p1 p2 p3 p4 p5 p6 ((p2.toInt64 * p6.toInt64) - (p3.toInt64 * p5.toInt64)) ((mi μ 2 (ix p4)) - (mi μ 2 (ix p1))) ((mi μ 3 (ix p4)) - (mi μ 3 (ix p1))) 1)))))))
set_option maxHeartbeats 4000000 in
set_option maxRecDepth 100000 in
theorem k_X11_cross (l : Launch) (D : va_G) (a : Nat → ClassId) (mo : Nat) (μ : MS) (p1 : Int32) (p2 : Int32) (p3 : Int32) (p4 : Int32) (p5 : Int32) (p6 : Int32) (hok : of_X11_cross μ p1 p2 p3 p4 p5 p6) : KM l D a mo yX11_cross cX11_cross 17 ((some .boolean)) 1 23 [.int p1, .int p2, .int p3, .int p4, .int p5, .int p6] μ (some (.int (f_X11_cross μ p1 p2 p3 p4 p5 p6).1)) (f_X11_cross μ p1 p2 p3 p4 p5 p6).2 := by
  refine goMz (by decide +kernel) (Nat.le_of_ble_eq_true rfl) ?_
  intro p e s m args below meth c ls R Q hRf hRl C hl hB
  obtain ⟨hM, ret⟩ := hB
  have hl : lv_has ls 17 [(0, .ref mo), (1, .int p1), (2, .int p2), (3, .int p3), (4, .int p4), (5, .int p5), (6, .int p6)] := hl
  have hx := C.1.1
  have hb := C.1.2.1
  have hts := C.1.2.2.2.2
  have hown := C.1.2.2.2.1
  have hf : (f_X11_cross μ p1 p2 p3 p4 p5 p6) = (f_X11_cross μ p1 p2 p3 p4 p5 p6) := rfl
  have J_162 : ∀ (v7_162 : Int64) (v13_162 : Int64) (μ_162 : MS), (f_X11_cross μ p1 p2 p3 p4 p5 p6) = f_X11_cross_162 μ p1 p2 p3 p4 p5 p6 v7_162 v13_162 μ_162 → of_X11_cross_162 μ p1 p2 p3 p4 p5 p6 v7_162 v13_162 μ_162 → ∀ (H : Heap) (locs : List Loc) (ls : Array Slot), HM D a mo μ_162 s.heap H locs → lv_has ls 17 [(0, .ref mo), (1, .int p1), (3, .int p3), (7, .long v7_162), (13, .long v13_162)] → W p l e R s m args below meth c H locs 0 0 Q (F0 m 162 ls []) := by
    intro v7_162 v13_162 μ_162 hf hok H locs ls hM hl
    refine lv_aload_n hx hb dX11_cross_162 rfl (lv_at hl 0 rfl) ?_
    refine lv_ldc2 (v := 100) hx hb hown (hts _ q_1451) dX11_cross_163 ?_
    refine lv_aload_n hx hb dX11_cross_166 rfl (lv_at hl 0 rfl) ?_
    refine mg_cameraY C hM dX11_cross_167 ?_
    refine lv_iload_n hx hb dX11_cross_170 rfl (lv_at hl 1 rfl) ?_
    have ok_11 := And.left hok
    have hok := And.right hok
    refine ma_cameraY C hM ok_11 dX11_cross_171 ?_
    refine lv_i2l (v := ((mi μ_162 3 (ix p1)).toInt64)) hx hb dX11_cross_172 rfl ?_
    refine lv_lload hx hb dX11_cross_173 (lv_at hl 3 rfl) ?_
    refine lv_lmul hx hb dX11_cross_175 ?_
    refine lv_lload hx hb dX11_cross_176 (lv_at hl 4 rfl) ?_
    refine lv_iload_n hx hb dX11_cross_178 rfl (lv_at hl 2 rfl) ?_
    refine lv_i2l (v := p3.toInt64) hx hb dX11_cross_179 rfl ?_
    refine lv_lmul hx hb dX11_cross_180 ?_
    refine lv_ladd hx hb dX11_cross_181 ?_
    refine lv_lmul hx hb dX11_cross_182 ?_
    refine lv_lload hx hb dX11_cross_183 (lv_at hl 3 rfl) ?_
    have ok_12 := And.left hok
    have hok := And.right hok
    refine cc_S (av := [.long (100 * ((((mi μ_162 3 (ix p1)).toInt64) * v7_162) + (v13_162 * p3.toInt64))), .long v7_162]) C (k_X11_down l D a (100 * ((((mi μ_162 3 (ix p1)).toInt64) * v7_162) + (v13_162 * p3.toInt64))) v7_162 ok_12) cw_X11_202 (okR_of hRf hRl (Nat.le_of_ble_eq_true rfl) (Nat.le_of_ble_eq_true rfl)) rfl rfl hl.1 (Nat.le_of_ble_eq_true rfl) (Nat.zero_le _) (Nat.zero_le _) dX11_cross_185 ?_
    refine mp_placeY C hM dX11_cross_188 (fun H locs hM => ?_)
    refine lv_iconst (v := 1) hx hb dX11_cross_191 (by decide) ?_
    exact ret _ _ _ _ _ _ hM dX11_cross_192 (by unfold zb; decide) hf
  have J_110 : ∀ (v7_110 : Int64) (v11_110 : Int64) (v13_110 : Int64) (v15_110 : Int64), (f_X11_cross μ p1 p2 p3 p4 p5 p6) = f_X11_cross_110 μ p1 p2 p3 p4 p5 p6 v7_110 v11_110 v13_110 v15_110 → of_X11_cross_110 μ p1 p2 p3 p4 p5 p6 v7_110 v11_110 v13_110 v15_110 → ∀ (ls : Array Slot), lv_has ls 17 [(0, .ref mo), (1, .int p1), (2, .int p2), (3, .int p3), (7, .long v7_110), (11, .long v11_110), (13, .long v13_110), (15, .long v15_110)] → W p l e R s m args below meth c s.heap [] 0 0 Q (F0 m 110 ls []) := by
    intro v7_110 v11_110 v13_110 v15_110 hf hok ls hl
    refine lv_lload hx hb dX11_cross_110 (lv_at hl 4 rfl) ?_
    refine lv_lload hx hb dX11_cross_112 (lv_at hl 5 rfl) ?_
    refine lv_lmul hx hb dX11_cross_114 ?_
    refine lv_lstore (lv' := [(7, .long (v7_110 * v11_110)), (0, .ref mo), (1, .int p1), (2, .int p2), (3, .int p3), (11, .long v11_110), (13, .long v13_110), (15, .long v15_110)]) hx hb dX11_cross_115 hl (by decide) rfl (fun ls hl => ?_)
    refine lv_lload hx hb dX11_cross_117 (lv_at hl 6 rfl) ?_
    refine lv_lconst (v := 0) hx hb dX11_cross_119 (by decide) ?_
    refine W.lcmp hx hb dX11_cross_120 ?_
    refine lv_if_le (tgt := 131) hx hb dX11_cross_121 (by decide) (fun c_7 => ?_) (fun c_7 => ?_)
    · have hf := hf.trans (if_pos c_7)
      have hok := oif_pos hok c_7
      refine lv_iconst (v := 0) hx hb dX11_cross_131 (by decide) ?_
      exact ret _ _ _ _ _ _ hM dX11_cross_132 (by unfold zb; decide) hf
    · have hf := hf.trans (if_neg c_7)
      have hok := oif_neg hok c_7
      refine lv_lload hx hb dX11_cross_124 (lv_at hl 7 rfl) ?_
      refine lv_lconst (v := 0) hx hb dX11_cross_126 (by decide) ?_
      refine W.lcmp hx hb dX11_cross_127 ?_
      refine lv_if_gt (tgt := 133) hx hb dX11_cross_128 (by decide) (fun c_8 => ?_) (fun c_8 => ?_)
      · have hf := hf.trans (if_pos c_8)
        have hok := oif_pos hok c_8
        refine lv_aload_n hx hb dX11_cross_133 rfl (lv_at hl 1 rfl) ?_
        refine lv_ldc2 (v := 100) hx hb hown (hts _ q_1451) dX11_cross_134 ?_
        refine lv_aload_n hx hb dX11_cross_137 rfl (lv_at hl 1 rfl) ?_
        refine mg_cameraX C hM dX11_cross_138 ?_
        refine lv_iload_n hx hb dX11_cross_141 rfl (lv_at hl 2 rfl) ?_
        have ok_9 := And.left hok
        have hok := And.right hok
        refine ma_cameraX C hM ok_9 dX11_cross_142 ?_
        refine lv_i2l (v := ((mi μ 2 (ix p1)).toInt64)) hx hb dX11_cross_143 rfl ?_
        refine lv_lload hx hb dX11_cross_144 (lv_at hl 0 rfl) ?_
        refine lv_lmul hx hb dX11_cross_146 ?_
        refine lv_lload hx hb dX11_cross_147 (lv_at hl 6 rfl) ?_
        refine lv_iload_n hx hb dX11_cross_149 rfl (lv_at hl 3 rfl) ?_
        refine lv_i2l (v := p2.toInt64) hx hb dX11_cross_150 rfl ?_
        refine lv_lmul hx hb dX11_cross_151 ?_
        refine lv_ladd hx hb dX11_cross_152 ?_
        refine lv_lmul hx hb dX11_cross_153 ?_
        refine lv_lload hx hb dX11_cross_154 (lv_at hl 0 rfl) ?_
        have ok_10 := And.left hok
        have hok := And.right hok
        refine cc_S (av := [.long (100 * ((((mi μ 2 (ix p1)).toInt64) * (v7_110 * v11_110)) + (v13_110 * p2.toInt64))), .long (v7_110 * v11_110)]) C (k_X11_down l D a (100 * ((((mi μ 2 (ix p1)).toInt64) * (v7_110 * v11_110)) + (v13_110 * p2.toInt64))) (v7_110 * v11_110) ok_10) cw_X11_202 (okR_of hRf hRl (Nat.le_of_ble_eq_true rfl) (Nat.le_of_ble_eq_true rfl)) rfl rfl hl.1 (Nat.le_of_ble_eq_true rfl) (Nat.zero_le _) (Nat.zero_le _) dX11_cross_156 ?_
        refine mp_placeX C hM dX11_cross_159 (fun H locs hM => ?_)
        exact J_162 (v7_110 * v11_110) v13_110 (mL μ 25 0 (f_X11_down (100 * ((((mi μ 2 (ix p1)).toInt64) * (v7_110 * v11_110)) + (v13_110 * p2.toInt64))) (v7_110 * v11_110))) hf hok _ _ ls hM (lv_sub hl [1, 2, 4, 0, 6] rfl)
      · have hf := hf.trans (if_neg c_8)
        have hok := oif_neg hok c_8
        refine lv_iconst (v := 0) hx hb dX11_cross_131 (by decide) ?_
        exact ret _ _ _ _ _ _ hM dX11_cross_132 (by unfold zb; decide) hf
  have J_70 : ∀ (v7_70 : Int64) (v9_70 : Int32) (v10_70 : Int32) (t0_70 : Int64), (f_X11_cross μ p1 p2 p3 p4 p5 p6) = f_X11_cross_70 μ p1 p2 p3 p4 p5 p6 v7_70 v9_70 v10_70 t0_70 → of_X11_cross_70 μ p1 p2 p3 p4 p5 p6 v7_70 v9_70 v10_70 t0_70 → ∀ (ls : Array Slot), lv_has ls 17 [(0, .ref mo), (1, .int p1), (2, .int p2), (3, .int p3), (5, .int p5), (6, .int p6), (7, .long v7_70), (9, .int v9_70), (10, .int v10_70)] → W p l e R s m args below meth c s.heap [] 0 0 Q (F0 m 70 ls [.long t0_70]) := by
    intro v7_70 v9_70 v10_70 t0_70 hf hok ls hl
    refine lv_lstore (lv' := [(11, .long t0_70), (0, .ref mo), (1, .int p1), (2, .int p2), (3, .int p3), (5, .int p5), (6, .int p6), (7, .long v7_70), (9, .int v9_70), (10, .int v10_70)]) hx hb dX11_cross_70 hl (by decide) rfl (fun ls hl => ?_)
    refine lv_lload hx hb dX11_cross_72 (lv_at hl 0 rfl) ?_
    refine lv_iload hx hb dX11_cross_74 (lv_at hl 8 rfl) ?_
    refine lv_i2l (v := v9_70.toInt64) hx hb dX11_cross_76 rfl ?_
    refine lv_iload hx hb dX11_cross_77 (lv_at hl 6 rfl) ?_
    refine lv_i2l (v := p6.toInt64) hx hb dX11_cross_79 rfl ?_
    refine lv_lmul hx hb dX11_cross_80 ?_
    refine lv_iload hx hb dX11_cross_81 (lv_at hl 9 rfl) ?_
    refine lv_i2l (v := v10_70.toInt64) hx hb dX11_cross_83 rfl ?_
    refine lv_iload hx hb dX11_cross_84 (lv_at hl 5 rfl) ?_
    refine lv_i2l (v := p5.toInt64) hx hb dX11_cross_86 rfl ?_
    refine lv_lmul hx hb dX11_cross_87 ?_
    refine lv_lsub hx hb dX11_cross_88 ?_
    refine lv_lmul hx hb dX11_cross_89 ?_
    refine lv_lstore (lv' := [(13, .long (t0_70 * ((v9_70.toInt64 * p6.toInt64) - (v10_70.toInt64 * p5.toInt64)))), (11, .long t0_70), (0, .ref mo), (1, .int p1), (2, .int p2), (3, .int p3), (5, .int p5), (6, .int p6), (7, .long v7_70), (9, .int v9_70), (10, .int v10_70)]) hx hb dX11_cross_90 hl (by decide) rfl (fun ls hl => ?_)
    refine lv_lload hx hb dX11_cross_92 (lv_at hl 1 rfl) ?_
    refine lv_iload hx hb dX11_cross_94 (lv_at hl 9 rfl) ?_
    refine lv_i2l (v := v9_70.toInt64) hx hb dX11_cross_96 rfl ?_
    refine lv_iload_n hx hb dX11_cross_97 rfl (lv_at hl 5 rfl) ?_
    refine lv_i2l (v := p3.toInt64) hx hb dX11_cross_98 rfl ?_
    refine lv_lmul hx hb dX11_cross_99 ?_
    refine lv_iload hx hb dX11_cross_100 (lv_at hl 10 rfl) ?_
    refine lv_i2l (v := v10_70.toInt64) hx hb dX11_cross_102 rfl ?_
    refine lv_iload_n hx hb dX11_cross_103 rfl (lv_at hl 4 rfl) ?_
    refine lv_i2l (v := p2.toInt64) hx hb dX11_cross_104 rfl ?_
    refine lv_lmul hx hb dX11_cross_105 ?_
    refine lv_lsub hx hb dX11_cross_106 ?_
    refine lv_lmul hx hb dX11_cross_107 ?_
    refine lv_lstore (lv' := [(15, .long (t0_70 * ((v9_70.toInt64 * p3.toInt64) - (v10_70.toInt64 * p2.toInt64)))), (13, .long (t0_70 * ((v9_70.toInt64 * p6.toInt64) - (v10_70.toInt64 * p5.toInt64)))), (11, .long t0_70), (0, .ref mo), (1, .int p1), (2, .int p2), (3, .int p3), (5, .int p5), (6, .int p6), (7, .long v7_70), (9, .int v9_70), (10, .int v10_70)]) hx hb dX11_cross_108 hl (by decide) rfl (fun ls hl => ?_)
    exact J_110 v7_70 t0_70 (t0_70 * ((v9_70.toInt64 * p6.toInt64) - (v10_70.toInt64 * p5.toInt64))) (t0_70 * ((v9_70.toInt64 * p3.toInt64) - (v10_70.toInt64 * p2.toInt64))) hf hok ls (lv_sub hl [3, 4, 5, 6, 9, 2, 1, 0] rfl)
  refine lv_iload_n hx hb dX11_cross_0 rfl (lv_at hl 2 rfl) ?_
  refine lv_i2l (v := p2.toInt64) hx hb dX11_cross_1 rfl ?_
  refine lv_iload hx hb dX11_cross_2 (lv_at hl 6 rfl) ?_
  refine lv_i2l (v := p6.toInt64) hx hb dX11_cross_4 rfl ?_
  refine lv_lmul hx hb dX11_cross_5 ?_
  refine lv_iload_n hx hb dX11_cross_6 rfl (lv_at hl 3 rfl) ?_
  refine lv_i2l (v := p3.toInt64) hx hb dX11_cross_7 rfl ?_
  refine lv_iload hx hb dX11_cross_8 (lv_at hl 5 rfl) ?_
  refine lv_i2l (v := p5.toInt64) hx hb dX11_cross_10 rfl ?_
  refine lv_lmul hx hb dX11_cross_11 ?_
  refine lv_lsub hx hb dX11_cross_12 ?_
  refine lv_lstore (lv' := [(7, .long ((p2.toInt64 * p6.toInt64) - (p3.toInt64 * p5.toInt64))), (0, .ref mo), (1, .int p1), (2, .int p2), (3, .int p3), (4, .int p4), (5, .int p5), (6, .int p6)]) hx hb dX11_cross_13 hl (by decide) rfl (fun ls hl => ?_)
  refine lv_lload hx hb dX11_cross_15 (lv_at hl 0 rfl) ?_
  refine lv_lconst (v := 0) hx hb dX11_cross_17 (by decide) ?_
  refine W.lcmp hx hb dX11_cross_18 ?_
  refine lv_if_ne (tgt := 24) hx hb dX11_cross_19 (by decide) (fun c_1 => ?_) (fun c_1 => ?_)
  · have hf := hf.trans (if_neg c_1)
    have hok := oif_neg hok c_1
    refine lv_aload_n hx hb dX11_cross_24 rfl (lv_at hl 1 rfl) ?_
    refine mg_cameraX C hM dX11_cross_25 ?_
    refine lv_iload hx hb dX11_cross_28 (lv_at hl 5 rfl) ?_
    have ok_2 := And.left hok
    have hok := And.right hok
    refine ma_cameraX C hM ok_2 dX11_cross_30 ?_
    refine lv_aload_n hx hb dX11_cross_31 rfl (lv_at hl 1 rfl) ?_
    refine mg_cameraX C hM dX11_cross_32 ?_
    refine lv_iload_n hx hb dX11_cross_35 rfl (lv_at hl 2 rfl) ?_
    have ok_3 := And.left hok
    have hok := And.right hok
    refine ma_cameraX C hM ok_3 dX11_cross_36 ?_
    refine lv_isub hx hb dX11_cross_37 ?_
    refine lv_istore (lv' := [(9, .int ((mi μ 2 (ix p4)) - (mi μ 2 (ix p1)))), (7, .long ((p2.toInt64 * p6.toInt64) - (p3.toInt64 * p5.toInt64))), (0, .ref mo), (1, .int p1), (2, .int p2), (3, .int p3), (4, .int p4), (5, .int p5), (6, .int p6)]) hx hb dX11_cross_38 hl (by decide) rfl (fun ls hl => ?_)
    refine lv_aload_n hx hb dX11_cross_40 rfl (lv_at hl 2 rfl) ?_
    refine mg_cameraY C hM dX11_cross_41 ?_
    refine lv_iload hx hb dX11_cross_44 (lv_at hl 6 rfl) ?_
    have ok_4 := And.left hok
    have hok := And.right hok
    refine ma_cameraY C hM ok_4 dX11_cross_46 ?_
    refine lv_aload_n hx hb dX11_cross_47 rfl (lv_at hl 2 rfl) ?_
    refine mg_cameraY C hM dX11_cross_48 ?_
    refine lv_iload_n hx hb dX11_cross_51 rfl (lv_at hl 3 rfl) ?_
    have ok_5 := And.left hok
    have hok := And.right hok
    refine ma_cameraY C hM ok_5 dX11_cross_52 ?_
    refine lv_isub hx hb dX11_cross_53 ?_
    refine lv_istore (lv' := [(10, .int ((mi μ 3 (ix p4)) - (mi μ 3 (ix p1)))), (9, .int ((mi μ 2 (ix p4)) - (mi μ 2 (ix p1)))), (7, .long ((p2.toInt64 * p6.toInt64) - (p3.toInt64 * p5.toInt64))), (0, .ref mo), (1, .int p1), (2, .int p2), (3, .int p3), (4, .int p4), (5, .int p5), (6, .int p6)]) hx hb dX11_cross_54 hl (by decide) rfl (fun ls hl => ?_)
    refine lv_lload hx hb dX11_cross_56 (lv_at hl 2 rfl) ?_
    refine lv_lconst (v := 0) hx hb dX11_cross_58 (by decide) ?_
    refine W.lcmp hx hb dX11_cross_59 ?_
    refine lv_if_le (tgt := 67) hx hb dX11_cross_60 (by decide) (fun c_6 => ?_) (fun c_6 => ?_)
    · have hf := hf.trans (if_pos c_6)
      have hok := oif_pos hok c_6
      refine lv_ldc2 (v := (-1)) hx hb hown (hts _ q_1450) dX11_cross_67 ?_
      exact J_70 ((p2.toInt64 * p6.toInt64) - (p3.toInt64 * p5.toInt64)) ((mi μ 2 (ix p4)) - (mi μ 2 (ix p1))) ((mi μ 3 (ix p4)) - (mi μ 3 (ix p1))) (-1) hf hok ls (lv_sub hl [3, 4, 5, 6, 8, 9, 2, 1, 0] rfl)
    · have hf := hf.trans (if_neg c_6)
      have hok := oif_neg hok c_6
      refine lv_lconst (v := 1) hx hb dX11_cross_63 (by decide) ?_
      refine lv_goto (tgt := 70) hx hb dX11_cross_64 (by decide) ?_
      exact J_70 ((p2.toInt64 * p6.toInt64) - (p3.toInt64 * p5.toInt64)) ((mi μ 2 (ix p4)) - (mi μ 2 (ix p1))) ((mi μ 3 (ix p4)) - (mi μ 3 (ix p1))) 1 hf hok ls (lv_sub hl [3, 4, 5, 6, 8, 9, 2, 1, 0] rfl)
  · have hf := hf.trans (if_pos c_1)
    have hok := oif_pos hok c_1
    refine lv_iconst (v := 0) hx hb dX11_cross_22 (by decide) ?_
    exact ret _ _ _ _ _ _ hM dX11_cross_23 (by unfold zb; decide) hf
def f_X11_counts (μ : MS) (p1 : Int32) : Int32 := (if 30 < (mi μ 17 (ix p1)) then 0 else (if (mi μ 18 (ix p1)) < 50 then 0 else 1))
def of_X11_counts (μ : MS) (p1 : Int32) : Prop := (vp_in p1 60 ∧ (oif (30 < (mi μ 17 (ix p1))) True (vp_in p1 60 ∧ True)))
set_option maxHeartbeats 4000000 in
set_option maxRecDepth 100000 in
theorem k_X11_counts (l : Launch) (D : va_G) (a : Nat → ClassId) (mo : Nat) (μ : MS) (p1 : Int32) (hok : of_X11_counts μ p1) : K0 l yX11_counts cX11_counts 2 ((some .boolean)) 0 0 [.ref mo, .int p1] (BM D a mo μ) (.int (f_X11_counts μ p1)) := by
  refine go0z (D := D) (a := a) (by decide +kernel) (fun _ h => h.1) (Nat.le_of_ble_eq_true rfl) ?_
  intro p e s m args below meth c ls R Q hRf hRl C hl hB
  obtain ⟨hB, ret⟩ := hB
  have hM : HM D a mo μ s.heap s.heap [] := ⟨hB.2, va_S.rf⟩
  have hl : lv_has ls 2 [(0, .ref mo), (1, .int p1)] := hl
  have hx := C.1.1
  have hb := C.1.2.1
  have hts := C.1.2.2.2.2
  have hown := C.1.2.2.2.1
  have hf : (f_X11_counts μ p1) = (f_X11_counts μ p1) := rfl
  refine lv_aload_n hx hb dX11_counts_0 rfl (lv_at hl 0 rfl) ?_
  refine mg_lengths C hM dX11_counts_1 ?_
  refine lv_iload_n hx hb dX11_counts_4 rfl (lv_at hl 1 rfl) ?_
  have ok_1 := And.left hok
  have hok := And.right hok
  refine ma_lengths C hM ok_1 dX11_counts_5 ?_
  refine lv_bipush (v := 30) hx hb dX11_counts_6 (by decide) ?_
  refine lv_icmp_gt (tgt := 26) hx hb dX11_counts_8 (by decide) (fun c_2 => ?_) (fun c_2 => ?_)
  · have hf := hf.trans (if_pos c_2)
    have hok := oif_pos hok c_2
    refine lv_iconst (v := 0) hx hb dX11_counts_26 (by decide) ?_
    exact ret _ _ _ dX11_counts_27 (by unfold zb; decide) hf
  · have hf := hf.trans (if_neg c_2)
    have hok := oif_neg hok c_2
    refine lv_aload_n hx hb dX11_counts_11 rfl (lv_at hl 0 rfl) ?_
    refine mg_lights C hM dX11_counts_12 ?_
    refine lv_iload_n hx hb dX11_counts_15 rfl (lv_at hl 1 rfl) ?_
    have ok_3 := And.left hok
    have hok := And.right hok
    refine ma_lights C hM ok_3 dX11_counts_16 ?_
    refine lv_bipush (v := 50) hx hb dX11_counts_17 (by decide) ?_
    refine lv_icmp_lt (tgt := 26) hx hb dX11_counts_19 (by decide) (fun c_4 => ?_) (fun c_4 => ?_)
    · have hf := hf.trans (if_pos c_4)
      refine lv_iconst (v := 0) hx hb dX11_counts_26 (by decide) ?_
      exact ret _ _ _ dX11_counts_27 (by unfold zb; decide) hf
    · have hf := hf.trans (if_neg c_4)
      refine lv_iconst (v := 1) hx hb dX11_counts_22 (by decide) ?_
      refine lv_goto (tgt := 27) hx hb dX11_counts_23 (by decide) ?_
      exact ret _ _ _ dX11_counts_27 (by unfold zb; decide) hf
def f_X11_beginsCross (μ : MS) (p1 : Int32) (p2 : Int32) : Int32 × MS := ((f_X11_cross μ (mi μ 14 (ix p1)) (mi μ 19 (ix p1)) (mi μ 20 (ix p1)) (mi μ 14 (ix p2)) (mi μ 19 (ix p2)) (mi μ 20 (ix p2))).1, (f_X11_cross μ (mi μ 14 (ix p1)) (mi μ 19 (ix p1)) (mi μ 20 (ix p1)) (mi μ 14 (ix p2)) (mi μ 19 (ix p2)) (mi μ 20 (ix p2))).2)
def of_X11_beginsCross (μ : MS) (p1 : Int32) (p2 : Int32) : Prop := (vp_in p1 60 ∧ (vp_in p1 60 ∧ (vp_in p1 60 ∧ (vp_in p2 60 ∧ (vp_in p2 60 ∧ (vp_in p2 60 ∧ (of_X11_cross μ (mi μ 14 (ix p1)) (mi μ 19 (ix p1)) (mi μ 20 (ix p1)) (mi μ 14 (ix p2)) (mi μ 19 (ix p2)) (mi μ 20 (ix p2)) ∧ (zb (f_X11_cross μ (mi μ 14 (ix p1)) (mi μ 19 (ix p1)) (mi μ 20 (ix p1)) (mi μ 14 (ix p2)) (mi μ 19 (ix p2)) (mi μ 20 (ix p2))).1 ∧ True))))))))
set_option maxHeartbeats 4000000 in
set_option maxRecDepth 100000 in
theorem k_X11_beginsCross (l : Launch) (D : va_G) (a : Nat → ClassId) (mo : Nat) (μ : MS) (p1 : Int32) (p2 : Int32) (hok : of_X11_beginsCross μ p1 p2) : KM l D a mo yX11_beginsCross cX11_beginsCross 3 ((some .boolean)) 2 59 [.int p1, .int p2] μ (some (.int (f_X11_beginsCross μ p1 p2).1)) (f_X11_beginsCross μ p1 p2).2 := by
  refine goMz (by decide +kernel) (Nat.le_of_ble_eq_true rfl) ?_
  intro p e s m args below meth c ls R Q hRf hRl C hl hB
  obtain ⟨hM, ret⟩ := hB
  have hl : lv_has ls 3 [(0, .ref mo), (1, .int p1), (2, .int p2)] := hl
  have hx := C.1.1
  have hb := C.1.2.1
  have hts := C.1.2.2.2.2
  have hown := C.1.2.2.2.1
  have hf : (f_X11_beginsCross μ p1 p2) = (f_X11_beginsCross μ p1 p2) := rfl
  refine lv_aload_n hx hb dX11_beginsCross_0 rfl (lv_at hl 0 rfl) ?_
  refine lv_aload_n hx hb dX11_beginsCross_1 rfl (lv_at hl 0 rfl) ?_
  refine mg_ofCamera C hM dX11_beginsCross_2 ?_
  refine lv_iload_n hx hb dX11_beginsCross_5 rfl (lv_at hl 1 rfl) ?_
  have ok_1 := And.left hok
  have hok := And.right hok
  refine ma_ofCamera C hM ok_1 dX11_beginsCross_6 ?_
  refine lv_aload_n hx hb dX11_beginsCross_7 rfl (lv_at hl 0 rfl) ?_
  refine mg_beginX C hM dX11_beginsCross_8 ?_
  refine lv_iload_n hx hb dX11_beginsCross_11 rfl (lv_at hl 1 rfl) ?_
  have ok_2 := And.left hok
  have hok := And.right hok
  refine ma_beginX C hM ok_2 dX11_beginsCross_12 ?_
  refine lv_aload_n hx hb dX11_beginsCross_13 rfl (lv_at hl 0 rfl) ?_
  refine mg_beginY C hM dX11_beginsCross_14 ?_
  refine lv_iload_n hx hb dX11_beginsCross_17 rfl (lv_at hl 1 rfl) ?_
  have ok_3 := And.left hok
  have hok := And.right hok
  refine ma_beginY C hM ok_3 dX11_beginsCross_18 ?_
  refine lv_aload_n hx hb dX11_beginsCross_19 rfl (lv_at hl 0 rfl) ?_
  refine mg_ofCamera C hM dX11_beginsCross_20 ?_
  refine lv_iload_n hx hb dX11_beginsCross_23 rfl (lv_at hl 2 rfl) ?_
  have ok_4 := And.left hok
  have hok := And.right hok
  refine ma_ofCamera C hM ok_4 dX11_beginsCross_24 ?_
  refine lv_aload_n hx hb dX11_beginsCross_25 rfl (lv_at hl 0 rfl) ?_
  refine mg_beginX C hM dX11_beginsCross_26 ?_
  refine lv_iload_n hx hb dX11_beginsCross_29 rfl (lv_at hl 2 rfl) ?_
  have ok_5 := And.left hok
  have hok := And.right hok
  refine ma_beginX C hM ok_5 dX11_beginsCross_30 ?_
  refine lv_aload_n hx hb dX11_beginsCross_31 rfl (lv_at hl 0 rfl) ?_
  refine mg_beginY C hM dX11_beginsCross_32 ?_
  refine lv_iload_n hx hb dX11_beginsCross_35 rfl (lv_at hl 2 rfl) ?_
  have ok_6 := And.left hok
  have hok := And.right hok
  refine ma_beginY C hM ok_6 dX11_beginsCross_36 ?_
  have ok_7 := And.left hok
  have hok := And.right hok
  refine cc_M (av := [.int (mi μ 14 (ix p1)), .int (mi μ 19 (ix p1)), .int (mi μ 20 (ix p1)), .int (mi μ 14 (ix p2)), .int (mi μ 19 (ix p2)), .int (mi μ 20 (ix p2))]) C hM (k_X11_cross l D a mo μ (mi μ 14 (ix p1)) (mi μ 19 (ix p1)) (mi μ 20 (ix p1)) (mi μ 14 (ix p2)) (mi μ 19 (ix p2)) (mi μ 20 (ix p2)) ok_7) cw_X11_213 (okR_of hRf hRl (Nat.le_of_ble_eq_true rfl) (Nat.le_of_ble_eq_true rfl)) rfl rfl hl.1 (Nat.le_of_ble_eq_true rfl) (Nat.zero_le _) (Nat.zero_le _) dX11_beginsCross_37 (fun H locs hM => ?_)
  have ok_8 := And.left hok
  have hok := And.right hok
  exact ret _ _ _ _ _ _ hM dX11_beginsCross_40 ok_8 hf
def f_X11_endsCross (μ : MS) (p1 : Int32) (p2 : Int32) : Int32 × MS := ((f_X11_cross μ (mi μ 14 (ix p1)) (mi μ 21 (ix p1)) (mi μ 22 (ix p1)) (mi μ 14 (ix p2)) (mi μ 21 (ix p2)) (mi μ 22 (ix p2))).1, (f_X11_cross μ (mi μ 14 (ix p1)) (mi μ 21 (ix p1)) (mi μ 22 (ix p1)) (mi μ 14 (ix p2)) (mi μ 21 (ix p2)) (mi μ 22 (ix p2))).2)
def of_X11_endsCross (μ : MS) (p1 : Int32) (p2 : Int32) : Prop := (vp_in p1 60 ∧ (vp_in p1 60 ∧ (vp_in p1 60 ∧ (vp_in p2 60 ∧ (vp_in p2 60 ∧ (vp_in p2 60 ∧ (of_X11_cross μ (mi μ 14 (ix p1)) (mi μ 21 (ix p1)) (mi μ 22 (ix p1)) (mi μ 14 (ix p2)) (mi μ 21 (ix p2)) (mi μ 22 (ix p2)) ∧ (zb (f_X11_cross μ (mi μ 14 (ix p1)) (mi μ 21 (ix p1)) (mi μ 22 (ix p1)) (mi μ 14 (ix p2)) (mi μ 21 (ix p2)) (mi μ 22 (ix p2))).1 ∧ True))))))))
set_option maxHeartbeats 4000000 in
set_option maxRecDepth 100000 in
theorem k_X11_endsCross (l : Launch) (D : va_G) (a : Nat → ClassId) (mo : Nat) (μ : MS) (p1 : Int32) (p2 : Int32) (hok : of_X11_endsCross μ p1 p2) : KM l D a mo yX11_endsCross cX11_endsCross 3 ((some .boolean)) 2 59 [.int p1, .int p2] μ (some (.int (f_X11_endsCross μ p1 p2).1)) (f_X11_endsCross μ p1 p2).2 := by
  refine goMz (by decide +kernel) (Nat.le_of_ble_eq_true rfl) ?_
  intro p e s m args below meth c ls R Q hRf hRl C hl hB
  obtain ⟨hM, ret⟩ := hB
  have hl : lv_has ls 3 [(0, .ref mo), (1, .int p1), (2, .int p2)] := hl
  have hx := C.1.1
  have hb := C.1.2.1
  have hts := C.1.2.2.2.2
  have hown := C.1.2.2.2.1
  have hf : (f_X11_endsCross μ p1 p2) = (f_X11_endsCross μ p1 p2) := rfl
  refine lv_aload_n hx hb dX11_endsCross_0 rfl (lv_at hl 0 rfl) ?_
  refine lv_aload_n hx hb dX11_endsCross_1 rfl (lv_at hl 0 rfl) ?_
  refine mg_ofCamera C hM dX11_endsCross_2 ?_
  refine lv_iload_n hx hb dX11_endsCross_5 rfl (lv_at hl 1 rfl) ?_
  have ok_1 := And.left hok
  have hok := And.right hok
  refine ma_ofCamera C hM ok_1 dX11_endsCross_6 ?_
  refine lv_aload_n hx hb dX11_endsCross_7 rfl (lv_at hl 0 rfl) ?_
  refine mg_endX C hM dX11_endsCross_8 ?_
  refine lv_iload_n hx hb dX11_endsCross_11 rfl (lv_at hl 1 rfl) ?_
  have ok_2 := And.left hok
  have hok := And.right hok
  refine ma_endX C hM ok_2 dX11_endsCross_12 ?_
  refine lv_aload_n hx hb dX11_endsCross_13 rfl (lv_at hl 0 rfl) ?_
  refine mg_endY C hM dX11_endsCross_14 ?_
  refine lv_iload_n hx hb dX11_endsCross_17 rfl (lv_at hl 1 rfl) ?_
  have ok_3 := And.left hok
  have hok := And.right hok
  refine ma_endY C hM ok_3 dX11_endsCross_18 ?_
  refine lv_aload_n hx hb dX11_endsCross_19 rfl (lv_at hl 0 rfl) ?_
  refine mg_ofCamera C hM dX11_endsCross_20 ?_
  refine lv_iload_n hx hb dX11_endsCross_23 rfl (lv_at hl 2 rfl) ?_
  have ok_4 := And.left hok
  have hok := And.right hok
  refine ma_ofCamera C hM ok_4 dX11_endsCross_24 ?_
  refine lv_aload_n hx hb dX11_endsCross_25 rfl (lv_at hl 0 rfl) ?_
  refine mg_endX C hM dX11_endsCross_26 ?_
  refine lv_iload_n hx hb dX11_endsCross_29 rfl (lv_at hl 2 rfl) ?_
  have ok_5 := And.left hok
  have hok := And.right hok
  refine ma_endX C hM ok_5 dX11_endsCross_30 ?_
  refine lv_aload_n hx hb dX11_endsCross_31 rfl (lv_at hl 0 rfl) ?_
  refine mg_endY C hM dX11_endsCross_32 ?_
  refine lv_iload_n hx hb dX11_endsCross_35 rfl (lv_at hl 2 rfl) ?_
  have ok_6 := And.left hok
  have hok := And.right hok
  refine ma_endY C hM ok_6 dX11_endsCross_36 ?_
  have ok_7 := And.left hok
  have hok := And.right hok
  refine cc_M (av := [.int (mi μ 14 (ix p1)), .int (mi μ 21 (ix p1)), .int (mi μ 22 (ix p1)), .int (mi μ 14 (ix p2)), .int (mi μ 21 (ix p2)), .int (mi μ 22 (ix p2))]) C hM (k_X11_cross l D a mo μ (mi μ 14 (ix p1)) (mi μ 21 (ix p1)) (mi μ 22 (ix p1)) (mi μ 14 (ix p2)) (mi μ 21 (ix p2)) (mi μ 22 (ix p2)) ok_7) cw_X11_213 (okR_of hRf hRl (Nat.le_of_ble_eq_true rfl) (Nat.le_of_ble_eq_true rfl)) rfl rfl hl.1 (Nat.le_of_ble_eq_true rfl) (Nat.zero_le _) (Nat.zero_le _) dX11_endsCross_37 (fun H locs hM => ?_)
  have ok_8 := And.left hok
  have hok := And.right hok
  exact ret _ _ _ _ _ _ hM dX11_endsCross_40 ok_8 hf
def f_X11_join_122 (μ : MS) (p1 : Int32) (p2 : Int32) (t0_122 : Int32) (μ_122 : MS) : Int32 × MS := (if t0_122 = 0 then (0, μ_122) else (1, μ_122))
def f_X11_join_113 (μ : MS) (p1 : Int32) (p2 : Int32) (t0_113 : Int32) (μ_113 : MS) : Int32 × MS := (if t0_113 = 0 then (0, μ_113) else (f_X11_join_122 μ p1 p2 ((f_X11_endsCross μ_113 p1 p2).1) ((f_X11_endsCross μ_113 p1 p2).2)))
def of_X11_join_113 (μ : MS) (p1 : Int32) (p2 : Int32) (t0_113 : Int32) (μ_113 : MS) : Prop := (oif (t0_113 = 0) True (of_X11_endsCross μ_113 p1 p2 ∧ True))
def f_X11_join_100 (μ : MS) (p1 : Int32) (p2 : Int32) (t0_100 : Int32) : Int32 × MS := (if t0_100 = 0 then (0, μ) else (f_X11_join_113 μ p1 p2 ((f_X11_beginsCross μ p1 p2).1) ((f_X11_beginsCross μ p1 p2).2)))
def of_X11_join_100 (μ : MS) (p1 : Int32) (p2 : Int32) (t0_100 : Int32) : Prop := (oif (t0_100 = 0) True (of_X11_beginsCross μ p1 p2 ∧ (of_X11_join_113 μ p1 p2 ((f_X11_beginsCross μ p1 p2).1) ((f_X11_beginsCross μ p1 p2).2))))
def f_X11_join (μ : MS) (p1 : Int32) (p2 : Int32) : Int32 × MS := (if (f_X11_counts μ p1) = 0 then (f_X11_join_100 μ p1 p2 0) else (if (f_X11_counts μ p2) = 0 then (f_X11_join_100 μ p1 p2 0) else (if (mi μ 15 (ix p1)) = (mi μ 15 (ix p2)) then (if (mi μ 14 (ix p1)) = (mi μ 14 (ix p2)) then (f_X11_join_100 μ p1 p2 0) else (if 5 < (((mi μ 16 (ix p1)) - (mi μ 4 (ix (mi μ 14 (ix p1))))) - ((mi μ 16 (ix p2)) - (mi μ 4 (ix (mi μ 14 (ix p2)))))) then (f_X11_join_100 μ p1 p2 0) else (if (((mi μ 16 (ix p1)) - (mi μ 4 (ix (mi μ 14 (ix p1))))) - ((mi μ 16 (ix p2)) - (mi μ 4 (ix (mi μ 14 (ix p2)))))) < (-5) then (f_X11_join_100 μ p1 p2 0) else (f_X11_join_100 μ p1 p2 1)))) else (f_X11_join_100 μ p1 p2 0))))
def of_X11_join (μ : MS) (p1 : Int32) (p2 : Int32) : Prop := (vp_in p1 60 ∧ (vp_in p1 60 ∧ (vp_in (mi μ 14 (ix p1)) 10 ∧ (vp_in p2 60 ∧ (vp_in p2 60 ∧ (vp_in (mi μ 14 (ix p2)) 10 ∧ (of_X11_counts μ p1 ∧ (oif ((f_X11_counts μ p1) = 0) (of_X11_join_100 μ p1 p2 0) (of_X11_counts μ p2 ∧ (oif ((f_X11_counts μ p2) = 0) (of_X11_join_100 μ p1 p2 0) (vp_in p1 60 ∧ (vp_in p2 60 ∧ (oif ((mi μ 15 (ix p1)) = (mi μ 15 (ix p2))) (vp_in p1 60 ∧ (vp_in p2 60 ∧ (oif ((mi μ 14 (ix p1)) = (mi μ 14 (ix p2))) (of_X11_join_100 μ p1 p2 0) (oif (5 < (((mi μ 16 (ix p1)) - (mi μ 4 (ix (mi μ 14 (ix p1))))) - ((mi μ 16 (ix p2)) - (mi μ 4 (ix (mi μ 14 (ix p2))))))) (of_X11_join_100 μ p1 p2 0) (oif ((((mi μ 16 (ix p1)) - (mi μ 4 (ix (mi μ 14 (ix p1))))) - ((mi μ 16 (ix p2)) - (mi μ 4 (ix (mi μ 14 (ix p2)))))) < (-5)) (of_X11_join_100 μ p1 p2 0) (of_X11_join_100 μ p1 p2 1)))))) (of_X11_join_100 μ p1 p2 0))))))))))))))
set_option maxHeartbeats 4000000 in
set_option maxRecDepth 100000 in
theorem k_X11_join (l : Launch) (D : va_G) (a : Nat → ClassId) (mo : Nat) (μ : MS) (p1 : Int32) (p2 : Int32) (hok : of_X11_join μ p1 p2) : KM l D a mo yX11_join cX11_join 5 ((some .boolean)) 3 81 [.int p1, .int p2] μ (some (.int (f_X11_join μ p1 p2).1)) (f_X11_join μ p1 p2).2 := by
  refine goMz (by decide +kernel) (Nat.le_of_ble_eq_true rfl) ?_
  intro p e s m args below meth c ls R Q hRf hRl C hl hB
  obtain ⟨hM, ret⟩ := hB
  have hl : lv_has ls 5 [(0, .ref mo), (1, .int p1), (2, .int p2)] := hl
  have hx := C.1.1
  have hb := C.1.2.1
  have hts := C.1.2.2.2.2
  have hown := C.1.2.2.2.1
  have hf : (f_X11_join μ p1 p2) = (f_X11_join μ p1 p2) := rfl
  have J_122 : ∀ (t0_122 : Int32) (μ_122 : MS), (f_X11_join μ p1 p2) = f_X11_join_122 μ p1 p2 t0_122 μ_122 → ∀ (H : Heap) (locs : List Loc) (ls : Array Slot), HM D a mo μ_122 s.heap H locs → lv_has ls 5 [] → W p l e R s m args below meth c H locs 0 0 Q (F0 m 122 ls [.int t0_122]) := by
    intro t0_122 μ_122 hf H locs ls hM hl
    refine lv_if_eq (tgt := 129) hx hb dX11_join_122 (by decide) (fun c_13 => ?_) (fun c_13 => ?_)
    · have hf := hf.trans (if_pos c_13)
      refine lv_iconst (v := 0) hx hb dX11_join_129 (by decide) ?_
      exact ret _ _ _ _ _ _ hM dX11_join_130 (by unfold zb; decide) hf
    · have hf := hf.trans (if_neg c_13)
      refine lv_iconst (v := 1) hx hb dX11_join_125 (by decide) ?_
      refine lv_goto (tgt := 130) hx hb dX11_join_126 (by decide) ?_
      exact ret _ _ _ _ _ _ hM dX11_join_130 (by unfold zb; decide) hf
  have J_113 : ∀ (t0_113 : Int32) (μ_113 : MS), (f_X11_join μ p1 p2) = f_X11_join_113 μ p1 p2 t0_113 μ_113 → of_X11_join_113 μ p1 p2 t0_113 μ_113 → ∀ (H : Heap) (locs : List Loc) (ls : Array Slot), HM D a mo μ_113 s.heap H locs → lv_has ls 5 [(0, .ref mo), (1, .int p1), (2, .int p2)] → W p l e R s m args below meth c H locs 0 0 Q (F0 m 113 ls [.int t0_113]) := by
    intro t0_113 μ_113 hf hok H locs ls hM hl
    refine lv_if_eq (tgt := 129) hx hb dX11_join_113 (by decide) (fun c_11 => ?_) (fun c_11 => ?_)
    · have hf := hf.trans (if_pos c_11)
      have hok := oif_pos hok c_11
      refine lv_iconst (v := 0) hx hb dX11_join_129 (by decide) ?_
      exact ret _ _ _ _ _ _ hM dX11_join_130 (by unfold zb; decide) hf
    · have hf := hf.trans (if_neg c_11)
      have hok := oif_neg hok c_11
      refine lv_aload_n hx hb dX11_join_116 rfl (lv_at hl 0 rfl) ?_
      refine lv_iload_n hx hb dX11_join_117 rfl (lv_at hl 1 rfl) ?_
      refine lv_iload_n hx hb dX11_join_118 rfl (lv_at hl 2 rfl) ?_
      have ok_12 := And.left hok
      have hok := And.right hok
      refine cc_M (av := [.int p1, .int p2]) C hM (k_X11_endsCross l D a mo μ_113 p1 p2 ok_12) cw_X11_223 (okR_of hRf hRl (Nat.le_of_ble_eq_true rfl) (Nat.le_of_ble_eq_true rfl)) rfl rfl hl.1 (Nat.le_of_ble_eq_true rfl) (Nat.zero_le _) (Nat.zero_le _) dX11_join_119 (fun H locs hM => ?_)
      exact J_122 ((f_X11_endsCross μ_113 p1 p2).1) ((f_X11_endsCross μ_113 p1 p2).2) hf _ _ ls hM (lv_sub hl [] rfl)
  have J_100 : ∀ (t0_100 : Int32), (f_X11_join μ p1 p2) = f_X11_join_100 μ p1 p2 t0_100 → of_X11_join_100 μ p1 p2 t0_100 → ∀ (ls : Array Slot), lv_has ls 5 [(0, .ref mo), (1, .int p1), (2, .int p2)] → W p l e R s m args below meth c s.heap [] 0 0 Q (F0 m 100 ls [.int t0_100]) := by
    intro t0_100 hf hok ls hl
    refine lv_istore (lv' := [(4, .int t0_100), (0, .ref mo), (1, .int p1), (2, .int p2)]) hx hb dX11_join_100 hl (by decide) rfl (fun ls hl => ?_)
    refine lv_iload hx hb dX11_join_102 (lv_at hl 0 rfl) ?_
    refine lv_if_eq (tgt := 129) hx hb dX11_join_104 (by decide) (fun c_9 => ?_) (fun c_9 => ?_)
    · have hf := hf.trans (if_pos c_9)
      have hok := oif_pos hok c_9
      refine lv_iconst (v := 0) hx hb dX11_join_129 (by decide) ?_
      exact ret _ _ _ _ _ _ hM dX11_join_130 (by unfold zb; decide) hf
    · have hf := hf.trans (if_neg c_9)
      have hok := oif_neg hok c_9
      refine lv_aload_n hx hb dX11_join_107 rfl (lv_at hl 1 rfl) ?_
      refine lv_iload_n hx hb dX11_join_108 rfl (lv_at hl 2 rfl) ?_
      refine lv_iload_n hx hb dX11_join_109 rfl (lv_at hl 3 rfl) ?_
      have ok_10 := And.left hok
      have hok := And.right hok
      refine cc_M (av := [.int p1, .int p2]) C hM (k_X11_beginsCross l D a mo μ p1 p2 ok_10) cw_X11_220 (okR_of hRf hRl (Nat.le_of_ble_eq_true rfl) (Nat.le_of_ble_eq_true rfl)) rfl rfl hl.1 (Nat.le_of_ble_eq_true rfl) (Nat.zero_le _) (Nat.zero_le _) dX11_join_110 (fun H locs hM => ?_)
      exact J_113 ((f_X11_beginsCross μ p1 p2).1) ((f_X11_beginsCross μ p1 p2).2) hf hok _ _ ls hM (lv_sub hl [1, 2, 3] rfl)
  refine lv_aload_n hx hb dX11_join_0 rfl (lv_at hl 0 rfl) ?_
  refine mg_seconds C hM dX11_join_1 ?_
  refine lv_iload_n hx hb dX11_join_4 rfl (lv_at hl 1 rfl) ?_
  have ok_1 := And.left hok
  have hok := And.right hok
  refine ma_seconds C hM ok_1 dX11_join_5 ?_
  refine lv_aload_n hx hb dX11_join_6 rfl (lv_at hl 0 rfl) ?_
  refine mg_wrongs C hM dX11_join_7 ?_
  refine lv_aload_n hx hb dX11_join_10 rfl (lv_at hl 0 rfl) ?_
  refine mg_ofCamera C hM dX11_join_11 ?_
  refine lv_iload_n hx hb dX11_join_14 rfl (lv_at hl 1 rfl) ?_
  have ok_2 := And.left hok
  have hok := And.right hok
  refine ma_ofCamera C hM ok_2 dX11_join_15 ?_
  have ok_3 := And.left hok
  have hok := And.right hok
  refine ma_wrongs C hM ok_3 dX11_join_16 ?_
  refine lv_isub hx hb dX11_join_17 ?_
  refine lv_aload_n hx hb dX11_join_18 rfl (lv_at hl 0 rfl) ?_
  refine mg_seconds C hM dX11_join_19 ?_
  refine lv_iload_n hx hb dX11_join_22 rfl (lv_at hl 2 rfl) ?_
  have ok_4 := And.left hok
  have hok := And.right hok
  refine ma_seconds C hM ok_4 dX11_join_23 ?_
  refine lv_aload_n hx hb dX11_join_24 rfl (lv_at hl 0 rfl) ?_
  refine mg_wrongs C hM dX11_join_25 ?_
  refine lv_aload_n hx hb dX11_join_28 rfl (lv_at hl 0 rfl) ?_
  refine mg_ofCamera C hM dX11_join_29 ?_
  refine lv_iload_n hx hb dX11_join_32 rfl (lv_at hl 2 rfl) ?_
  have ok_5 := And.left hok
  have hok := And.right hok
  refine ma_ofCamera C hM ok_5 dX11_join_33 ?_
  have ok_6 := And.left hok
  have hok := And.right hok
  refine ma_wrongs C hM ok_6 dX11_join_34 ?_
  refine lv_isub hx hb dX11_join_35 ?_
  refine lv_isub hx hb dX11_join_36 ?_
  refine lv_istore_n (lv' := [(3, .int (((mi μ 16 (ix p1)) - (mi μ 4 (ix (mi μ 14 (ix p1))))) - ((mi μ 16 (ix p2)) - (mi μ 4 (ix (mi μ 14 (ix p2))))))), (0, .ref mo), (1, .int p1), (2, .int p2)]) hx hb dX11_join_37 rfl hl (by decide) rfl (fun ls hl => ?_)
  refine lv_aload_n hx hb dX11_join_38 rfl (lv_at hl 1 rfl) ?_
  refine lv_iload_n hx hb dX11_join_39 rfl (lv_at hl 2 rfl) ?_
  have ok_7 := And.left hok
  have hok := And.right hok
  refine cc_R (av := [.int p1]) C hM (k_X11_counts l D a mo μ p1 ok_7) cw_X11_217 (okR_of hRf hRl (Nat.le_of_ble_eq_true rfl) (Nat.le_of_ble_eq_true rfl)) rfl rfl hl.1 (Nat.le_of_ble_eq_true rfl) (Nat.zero_le _) (Nat.zero_le _) dX11_join_40 ?_
  refine lv_if_eq (tgt := 99) hx hb dX11_join_43 (by decide) (fun c_8 => ?_) (fun c_8 => ?_)
  · have hf := hf.trans (if_pos c_8)
    have hok := oif_pos hok c_8
    refine lv_iconst (v := 0) hx hb dX11_join_99 (by decide) ?_
    exact J_100 0 hf hok ls (lv_sub hl [1, 2, 3] rfl)
  · have hf := hf.trans (if_neg c_8)
    have hok := oif_neg hok c_8
    refine lv_aload_n hx hb dX11_join_46 rfl (lv_at hl 1 rfl) ?_
    refine lv_iload_n hx hb dX11_join_47 rfl (lv_at hl 3 rfl) ?_
    have ok_14 := And.left hok
    have hok := And.right hok
    refine cc_R (av := [.int p2]) C hM (k_X11_counts l D a mo μ p2 ok_14) cw_X11_217 (okR_of hRf hRl (Nat.le_of_ble_eq_true rfl) (Nat.le_of_ble_eq_true rfl)) rfl rfl hl.1 (Nat.le_of_ble_eq_true rfl) (Nat.zero_le _) (Nat.zero_le _) dX11_join_48 ?_
    refine lv_if_eq (tgt := 99) hx hb dX11_join_51 (by decide) (fun c_15 => ?_) (fun c_15 => ?_)
    · have hf := hf.trans (if_pos c_15)
      have hok := oif_pos hok c_15
      refine lv_iconst (v := 0) hx hb dX11_join_99 (by decide) ?_
      exact J_100 0 hf hok ls (lv_sub hl [1, 2, 3] rfl)
    · have hf := hf.trans (if_neg c_15)
      have hok := oif_neg hok c_15
      refine lv_aload_n hx hb dX11_join_54 rfl (lv_at hl 1 rfl) ?_
      refine mg_nights C hM dX11_join_55 ?_
      refine lv_iload_n hx hb dX11_join_58 rfl (lv_at hl 2 rfl) ?_
      have ok_16 := And.left hok
      have hok := And.right hok
      refine ma_nights C hM ok_16 dX11_join_59 ?_
      refine lv_aload_n hx hb dX11_join_60 rfl (lv_at hl 1 rfl) ?_
      refine mg_nights C hM dX11_join_61 ?_
      refine lv_iload_n hx hb dX11_join_64 rfl (lv_at hl 3 rfl) ?_
      have ok_17 := And.left hok
      have hok := And.right hok
      refine ma_nights C hM ok_17 dX11_join_65 ?_
      refine lv_icmp_ne (tgt := 99) hx hb dX11_join_66 (by decide) (fun c_18 => ?_) (fun c_18 => ?_)
      · have hf := hf.trans (if_neg c_18)
        have hok := oif_neg hok c_18
        refine lv_iconst (v := 0) hx hb dX11_join_99 (by decide) ?_
        exact J_100 0 hf hok ls (lv_sub hl [1, 2, 3] rfl)
      · have hf := hf.trans (if_pos c_18)
        have hok := oif_pos hok c_18
        refine lv_aload_n hx hb dX11_join_69 rfl (lv_at hl 1 rfl) ?_
        refine mg_ofCamera C hM dX11_join_70 ?_
        refine lv_iload_n hx hb dX11_join_73 rfl (lv_at hl 2 rfl) ?_
        have ok_19 := And.left hok
        have hok := And.right hok
        refine ma_ofCamera C hM ok_19 dX11_join_74 ?_
        refine lv_aload_n hx hb dX11_join_75 rfl (lv_at hl 1 rfl) ?_
        refine mg_ofCamera C hM dX11_join_76 ?_
        refine lv_iload_n hx hb dX11_join_79 rfl (lv_at hl 3 rfl) ?_
        have ok_20 := And.left hok
        have hok := And.right hok
        refine ma_ofCamera C hM ok_20 dX11_join_80 ?_
        refine lv_icmp_eq (tgt := 99) hx hb dX11_join_81 (by decide) (fun c_21 => ?_) (fun c_21 => ?_)
        · have hf := hf.trans (if_pos c_21)
          have hok := oif_pos hok c_21
          refine lv_iconst (v := 0) hx hb dX11_join_99 (by decide) ?_
          exact J_100 0 hf hok ls (lv_sub hl [1, 2, 3] rfl)
        · have hf := hf.trans (if_neg c_21)
          have hok := oif_neg hok c_21
          refine lv_iload_n hx hb dX11_join_84 rfl (lv_at hl 0 rfl) ?_
          refine lv_iconst (v := 5) hx hb dX11_join_85 (by decide) ?_
          refine lv_icmp_gt (tgt := 99) hx hb dX11_join_86 (by decide) (fun c_22 => ?_) (fun c_22 => ?_)
          · have hf := hf.trans (if_pos c_22)
            have hok := oif_pos hok c_22
            refine lv_iconst (v := 0) hx hb dX11_join_99 (by decide) ?_
            exact J_100 0 hf hok ls (lv_sub hl [1, 2, 3] rfl)
          · have hf := hf.trans (if_neg c_22)
            have hok := oif_neg hok c_22
            refine lv_iload_n hx hb dX11_join_89 rfl (lv_at hl 0 rfl) ?_
            refine lv_bipush (v := (-5)) hx hb dX11_join_90 (by decide) ?_
            refine lv_icmp_lt (tgt := 99) hx hb dX11_join_92 (by decide) (fun c_23 => ?_) (fun c_23 => ?_)
            · have hf := hf.trans (if_pos c_23)
              have hok := oif_pos hok c_23
              refine lv_iconst (v := 0) hx hb dX11_join_99 (by decide) ?_
              exact J_100 0 hf hok ls (lv_sub hl [1, 2, 3] rfl)
            · have hf := hf.trans (if_neg c_23)
              have hok := oif_neg hok c_23
              refine lv_iconst (v := 1) hx hb dX11_join_95 (by decide) ?_
              refine lv_goto (tgt := 100) hx hb dX11_join_96 (by decide) ?_
              exact J_100 1 hf hok ls (lv_sub hl [1, 2, 3] rfl)
def b_X11_spreads_2 (w1_2 : Int32) (μw_2 : MS) : Bool × (Int32 × MS) := (if (mi μw_2 13 0) ≤ w1_2 then (false, (w1_2, μw_2)) else (true, ((w1_2 + 1), (mI (mI μw_2 23 (ix w1_2) w1_2) 24 (ix w1_2) (bz 0)))))
def ob_X11_spreads_2 (w1_2 : Int32) (μw_2 : MS) : Prop := (oif ((mi μw_2 13 0) ≤ w1_2) True (vp_in w1_2 60 ∧ (vp_in w1_2 60 ∧ True)))
def s_X11_spreads_2  (v : Int32 × MS) : Bool × (Int32 × MS) := b_X11_spreads_2  v.1 v.2
def os_X11_spreads_2  (v : Int32 × MS) : Prop := ob_X11_spreads_2  v.1 v.2
def f_X11_spreads_l50_161 (v2_50 : Int32) (w1_50 : Int32) (w3_50 : Int32) (μw_50 : MS) (v1_161 : Int32) (v3_161 : Int32) (μ_161 : MS) : Bool × (Int32 × Int32 × MS) := (true, (v1_161, (v3_161 + 1), μ_161))
def f_X11_spreads_l50_127 (v2_50 : Int32) (w1_50 : Int32) (w3_50 : Int32) (μw_50 : MS) (v3_127 : Int32) (t0_127 : Int32) (μ_127 : MS) : Bool × (Int32 × Int32 × MS) := (f_X11_spreads_l50_161 v2_50 w1_50 w3_50 μw_50 1 v3_127 (mI (mI (mI (mI μ_127 23 (ix v2_50) t0_127) 23 (ix v3_127) t0_127) 24 (ix v2_50) (bz 1)) 24 (ix v3_127) (bz 1)))
def of_X11_spreads_l50_127 (v2_50 : Int32) (w1_50 : Int32) (w3_50 : Int32) (μw_50 : MS) (v3_127 : Int32) (t0_127 : Int32) (μ_127 : MS) : Prop := (vp_in v2_50 60 ∧ (vp_in v3_127 60 ∧ (vp_in v2_50 60 ∧ (vp_in v3_127 60 ∧ True))))
def f_X11_spreads_l50_94 (v2_50 : Int32) (w1_50 : Int32) (w3_50 : Int32) (μw_50 : MS) (v1_94 : Int32) (v3_94 : Int32) (t0_94 : Int32) (μ_94 : MS) : Bool × (Int32 × Int32 × MS) := (if t0_94 = 0 then (f_X11_spreads_l50_161 v2_50 w1_50 w3_50 μw_50 v1_94 v3_94 μ_94) else (if (mi μ_94 23 (ix v3_94)) ≤ (mi μ_94 23 (ix v2_50)) then (f_X11_spreads_l50_127 v2_50 w1_50 w3_50 μw_50 v3_94 (mi μ_94 23 (ix v3_94)) μ_94) else (f_X11_spreads_l50_127 v2_50 w1_50 w3_50 μw_50 v3_94 (mi μ_94 23 (ix v2_50)) μ_94)))
def of_X11_spreads_l50_94 (v2_50 : Int32) (w1_50 : Int32) (w3_50 : Int32) (μw_50 : MS) (v1_94 : Int32) (v3_94 : Int32) (t0_94 : Int32) (μ_94 : MS) : Prop := (oif (t0_94 = 0) True (vp_in v2_50 60 ∧ (vp_in v3_94 60 ∧ (oif ((mi μ_94 23 (ix v3_94)) ≤ (mi μ_94 23 (ix v2_50))) (vp_in v3_94 60 ∧ (of_X11_spreads_l50_127 v2_50 w1_50 w3_50 μw_50 v3_94 (mi μ_94 23 (ix v3_94)) μ_94)) (vp_in v2_50 60 ∧ (of_X11_spreads_l50_127 v2_50 w1_50 w3_50 μw_50 v3_94 (mi μ_94 23 (ix v2_50)) μ_94))))))
def f_X11_spreads_l50_88 (v2_50 : Int32) (w1_50 : Int32) (w3_50 : Int32) (μw_50 : MS) (v1_88 : Int32) (v3_88 : Int32) (μ_88 : MS) : Bool × (Int32 × Int32 × MS) := (f_X11_spreads_l50_94 v2_50 w1_50 w3_50 μw_50 v1_88 v3_88 ((f_X11_join μ_88 v2_50 v3_88).1) ((f_X11_join μ_88 v2_50 v3_88).2))
def of_X11_spreads_l50_88 (v2_50 : Int32) (w1_50 : Int32) (w3_50 : Int32) (μw_50 : MS) (v1_88 : Int32) (v3_88 : Int32) (μ_88 : MS) : Prop := (of_X11_join μ_88 v2_50 v3_88 ∧ (of_X11_spreads_l50_94 v2_50 w1_50 w3_50 μw_50 v1_88 v3_88 ((f_X11_join μ_88 v2_50 v3_88).1) ((f_X11_join μ_88 v2_50 v3_88).2)))
def b_X11_spreads_50 (v2_50 : Int32) (w1_50 : Int32) (w3_50 : Int32) (μw_50 : MS) : Bool × (Int32 × Int32 × MS) := (if v2_50 ≤ w3_50 then (false, (w1_50, w3_50, μw_50)) else (if (mi μw_50 23 (ix v2_50)) = (mi μw_50 23 (ix w3_50)) then (if (mi μw_50 24 (ix v2_50)) = 0 then (f_X11_spreads_l50_88 v2_50 w1_50 w3_50 μw_50 w1_50 w3_50 μw_50) else (if (mi μw_50 24 (ix w3_50)) = 0 then (f_X11_spreads_l50_88 v2_50 w1_50 w3_50 μw_50 w1_50 w3_50 μw_50) else (f_X11_spreads_l50_161 v2_50 w1_50 w3_50 μw_50 w1_50 w3_50 μw_50))) else (f_X11_spreads_l50_88 v2_50 w1_50 w3_50 μw_50 w1_50 w3_50 μw_50)))
def ob_X11_spreads_50 (v2_50 : Int32) (w1_50 : Int32) (w3_50 : Int32) (μw_50 : MS) : Prop := (oif (v2_50 ≤ w3_50) True (vp_in v2_50 60 ∧ (vp_in w3_50 60 ∧ (oif ((mi μw_50 23 (ix v2_50)) = (mi μw_50 23 (ix w3_50))) (vp_in v2_50 60 ∧ (oif ((mi μw_50 24 (ix v2_50)) = 0) (of_X11_spreads_l50_88 v2_50 w1_50 w3_50 μw_50 w1_50 w3_50 μw_50) (vp_in w3_50 60 ∧ (oif ((mi μw_50 24 (ix w3_50)) = 0) (of_X11_spreads_l50_88 v2_50 w1_50 w3_50 μw_50 w1_50 w3_50 μw_50) True)))) (of_X11_spreads_l50_88 v2_50 w1_50 w3_50 μw_50 w1_50 w3_50 μw_50)))))
def s_X11_spreads_50 (v2_50 : Int32) (v : Int32 × Int32 × MS) : Bool × (Int32 × Int32 × MS) := b_X11_spreads_50 v2_50 v.1 v.2.1 v.2.2
def os_X11_spreads_50 (v2_50 : Int32) (v : Int32 × Int32 × MS) : Prop := ob_X11_spreads_50 v2_50 v.1 v.2.1 v.2.2
def f_X11_spreads_l40_167 (w1_40 : Int32) (w2_40 : Int32) (μw_40 : MS) (v1_167 : Int32) (v2_167 : Int32) (μ_167 : MS) : Bool × (Int32 × Int32 × MS) := (true, (v1_167, (v2_167 + 1), μ_167))
def f_X11_spreads_l40_50 (w1_40 : Int32) (w2_40 : Int32) (μw_40 : MS) (v1_50 : Int32) (v2_50 : Int32) (v3_50 : Int32) (μ_50 : MS) : Bool × (Int32 × Int32 × MS) := (f_X11_spreads_l40_167 w1_40 w2_40 μw_40 ((itr (s_X11_spreads_50 v2_50) FU (v1_50, v3_50, μ_50)).1) v2_50 ((itr (s_X11_spreads_50 v2_50) FU (v1_50, v3_50, μ_50)).2.2))
def of_X11_spreads_l40_50 (w1_40 : Int32) (w2_40 : Int32) (μw_40 : MS) (v1_50 : Int32) (v2_50 : Int32) (v3_50 : Int32) (μ_50 : MS) : Prop := (ito (s_X11_spreads_50 v2_50) (os_X11_spreads_50 v2_50) FU (v1_50, v3_50, μ_50) ∧ True)
def b_X11_spreads_40 (w1_40 : Int32) (w2_40 : Int32) (μw_40 : MS) : Bool × (Int32 × Int32 × MS) := (if (mi μw_40 13 0) ≤ w2_40 then (false, (w1_40, w2_40, μw_40)) else (f_X11_spreads_l40_50 w1_40 w2_40 μw_40 w1_40 w2_40 0 μw_40))
def ob_X11_spreads_40 (w1_40 : Int32) (w2_40 : Int32) (μw_40 : MS) : Prop := (oif ((mi μw_40 13 0) ≤ w2_40) True (of_X11_spreads_l40_50 w1_40 w2_40 μw_40 w1_40 w2_40 0 μw_40))
def s_X11_spreads_40  (v : Int32 × Int32 × MS) : Bool × (Int32 × Int32 × MS) := b_X11_spreads_40  v.1 v.2.1 v.2.2
def os_X11_spreads_40  (v : Int32 × Int32 × MS) : Prop := ob_X11_spreads_40  v.1 v.2.1 v.2.2
def f_X11_spreads_l32_173 (w1_32 : Int32) (μw_32 : MS) (v1_173 : Int32) (μ_173 : MS) : Bool × (Int32 × MS) := (true, (v1_173, μ_173))
def f_X11_spreads_l32_40 (w1_32 : Int32) (μw_32 : MS) (v1_40 : Int32) (v2_40 : Int32) (μ_40 : MS) : Bool × (Int32 × MS) := (f_X11_spreads_l32_173 w1_32 μw_32 ((itr s_X11_spreads_40 FU (v1_40, v2_40, μ_40)).1) ((itr s_X11_spreads_40 FU (v1_40, v2_40, μ_40)).2.2))
def of_X11_spreads_l32_40 (w1_32 : Int32) (μw_32 : MS) (v1_40 : Int32) (v2_40 : Int32) (μ_40 : MS) : Prop := (ito s_X11_spreads_40 os_X11_spreads_40 FU (v1_40, v2_40, μ_40) ∧ True)
def b_X11_spreads_32 (w1_32 : Int32) (μw_32 : MS) : Bool × (Int32 × MS) := (if w1_32 = 0 then (false, (w1_32, μw_32)) else (f_X11_spreads_l32_40 w1_32 μw_32 0 0 μw_32))
def ob_X11_spreads_32 (w1_32 : Int32) (μw_32 : MS) : Prop := (oif (w1_32 = 0) True (of_X11_spreads_l32_40 w1_32 μw_32 0 0 μw_32))
def s_X11_spreads_32  (v : Int32 × MS) : Bool × (Int32 × MS) := b_X11_spreads_32  v.1 v.2
def os_X11_spreads_32  (v : Int32 × MS) : Prop := ob_X11_spreads_32  v.1 v.2
def f_X11_spreads_176 (μ : MS) (μ_176 : MS) : MS := μ_176
def f_X11_spreads_32 (μ : MS) (v1_32 : Int32) (μ_32 : MS) : MS := (f_X11_spreads_176 μ ((itr s_X11_spreads_32 FU (v1_32, μ_32)).2))
def of_X11_spreads_32 (μ : MS) (v1_32 : Int32) (μ_32 : MS) : Prop := (ito s_X11_spreads_32 os_X11_spreads_32 FU (v1_32, μ_32) ∧ True)
def f_X11_spreads_30 (μ : MS) (μ_30 : MS) : MS := (f_X11_spreads_32 μ 1 μ_30)
def of_X11_spreads_30 (μ : MS) (μ_30 : MS) : Prop := (of_X11_spreads_32 μ 1 μ_30)
def f_X11_spreads_2 (μ : MS) (v1_2 : Int32) (μ_2 : MS) : MS := (f_X11_spreads_30 μ ((itr s_X11_spreads_2 FU (v1_2, μ_2)).2))
def of_X11_spreads_2 (μ : MS) (v1_2 : Int32) (μ_2 : MS) : Prop := (ito s_X11_spreads_2 os_X11_spreads_2 FU (v1_2, μ_2) ∧ (of_X11_spreads_30 μ ((itr s_X11_spreads_2 FU (v1_2, μ_2)).2)))
def f_X11_spreads (μ : MS) : MS := (f_X11_spreads_2 μ 0 μ)
def of_X11_spreads (μ : MS) : Prop := (of_X11_spreads_2 μ 0 μ)
set_option maxHeartbeats 4000000 in
set_option maxRecDepth 100000 in
theorem k_X11_spreads (l : Launch) (D : va_G) (a : Nat → ClassId) (mo : Nat) (μ : MS) (hok : of_X11_spreads μ) : KM l D a mo yX11_spreads cX11_spreads 5 none 4 105 [] μ none (f_X11_spreads μ) := by
  refine goMv (by decide +kernel) (Nat.le_of_ble_eq_true rfl) ?_
  intro p e s m args below meth c ls R Q hRf hRl C hl hB
  obtain ⟨hM, ret⟩ := hB
  have hl : lv_has ls 5 [(0, .ref mo)] := hl
  have hx := C.1.1
  have hb := C.1.2.1
  have hts := C.1.2.2.2.2
  have hown := C.1.2.2.2.1
  have hf : (f_X11_spreads μ) = (f_X11_spreads μ) := rfl
  have J_176 : ∀ (μ_176 : MS), (f_X11_spreads μ) = f_X11_spreads_176 μ μ_176 → ∀ (H : Heap) (locs : List Loc) (ls : Array Slot), HM D a mo μ_176 s.heap H locs → lv_has ls 5 [] → W p l e R s m args below meth c H locs 0 0 Q (F0 m 176 ls []) := by
    intro μ_176 hf H locs ls hM hl
    exact ret _ _ _ _ _ hM dX11_spreads_176 hf
  have J_32 : ∀ (v1_32 : Int32) (μ_32 : MS), (f_X11_spreads μ) = f_X11_spreads_32 μ v1_32 μ_32 → of_X11_spreads_32 μ v1_32 μ_32 → ∀ (H : Heap) (locs : List Loc) (ls : Array Slot), HM D a mo μ_32 s.heap H locs → lv_has ls 5 [(0, .ref mo), (1, .int v1_32)] → W p l e R s m args below meth c H locs 0 0 Q (F0 m 32 ls []) := by
    intro v1_32 μ_32 hf hok H locs ls hM hl
    refine itr_W (f := s_X11_spreads_32) (o := os_X11_spreads_32) (fun (v : Int32 × MS) => ∀ (H : Heap) (locs : List Loc) (ls : Array Slot), HM D a mo v.2 s.heap H locs → lv_has ls 5 [(0, .ref mo), (1, .int v.1)] → W p l e R s m args below meth c H locs 0 0 Q (F0 m 32 ls [])) (fun (v : Int32 × MS) => ∀ (H : Heap) (locs : List Loc) (ls : Array Slot), HM D a mo v.2 s.heap H locs → lv_has ls 5 [] → W p l e R s m args below meth c H locs 0 0 Q (F0 m 176 ls [])) ?_ FU (v1_32, μ_32) (And.left hok) ?_ _ _ ls hM (lv_sub hl [0, 1] rfl)
    · intro v hov kc ke
      obtain ⟨w1_32, μw_32⟩ := v
      have hok : ob_X11_spreads_32 w1_32 μw_32 := hov
      change ∀ v', (b_X11_spreads_32 w1_32 μw_32) = (true, v') → _ at kc
      change ∀ v', (b_X11_spreads_32 w1_32 μw_32) = (false, v') → _ at ke
      have hf : (b_X11_spreads_32 w1_32 μw_32) = (b_X11_spreads_32 w1_32 μw_32) := rfl
      intro H locs ls hM hl
      have J_l32_173 : ∀ (v1_173 : Int32) (μ_173 : MS), (b_X11_spreads_32 w1_32 μw_32) = f_X11_spreads_l32_173 w1_32 μw_32 v1_173 μ_173 → ∀ (H : Heap) (locs : List Loc) (ls : Array Slot), HM D a mo μ_173 s.heap H locs → lv_has ls 5 [(0, .ref mo), (1, .int v1_173)] → W p l e R s m args below meth c H locs 0 0 Q (F0 m 173 ls []) := by
        intro v1_173 μ_173 hf H locs ls hM hl
        refine lv_goto (tgt := 32) hx hb dX11_spreads_173 (by decide) ?_
        exact kc (v1_173, μ_173) hf H locs ls hM (lv_sub hl [0, 1] rfl)
      have J_l32_40 : ∀ (v1_40 : Int32) (v2_40 : Int32) (μ_40 : MS), (b_X11_spreads_32 w1_32 μw_32) = f_X11_spreads_l32_40 w1_32 μw_32 v1_40 v2_40 μ_40 → of_X11_spreads_l32_40 w1_32 μw_32 v1_40 v2_40 μ_40 → ∀ (H : Heap) (locs : List Loc) (ls : Array Slot), HM D a mo μ_40 s.heap H locs → lv_has ls 5 [(0, .ref mo), (1, .int v1_40), (2, .int v2_40)] → W p l e R s m args below meth c H locs 0 0 Q (F0 m 40 ls []) := by
        intro v1_40 v2_40 μ_40 hf hok H locs ls hM hl
        refine itr_W (f := s_X11_spreads_40) (o := os_X11_spreads_40) (fun (v : Int32 × Int32 × MS) => ∀ (H : Heap) (locs : List Loc) (ls : Array Slot), HM D a mo v.2.2 s.heap H locs → lv_has ls 5 [(0, .ref mo), (1, .int v.1), (2, .int v.2.1)] → W p l e R s m args below meth c H locs 0 0 Q (F0 m 40 ls [])) (fun (v : Int32 × Int32 × MS) => ∀ (H : Heap) (locs : List Loc) (ls : Array Slot), HM D a mo v.2.2 s.heap H locs → lv_has ls 5 [(0, .ref mo), (1, .int v.1)] → W p l e R s m args below meth c H locs 0 0 Q (F0 m 173 ls [])) ?_ FU (v1_40, v2_40, μ_40) (And.left hok) ?_ _ _ ls hM (lv_sub hl [0, 1, 2] rfl)
        · intro v hov kc ke
          obtain ⟨w1_40, w2_40, μw_40⟩ := v
          have hok : ob_X11_spreads_40 w1_40 w2_40 μw_40 := hov
          change ∀ v', (b_X11_spreads_40 w1_40 w2_40 μw_40) = (true, v') → _ at kc
          change ∀ v', (b_X11_spreads_40 w1_40 w2_40 μw_40) = (false, v') → _ at ke
          have hf : (b_X11_spreads_40 w1_40 w2_40 μw_40) = (b_X11_spreads_40 w1_40 w2_40 μw_40) := rfl
          intro H locs ls hM hl
          have J_l40_167 : ∀ (v1_167 : Int32) (v2_167 : Int32) (μ_167 : MS), (b_X11_spreads_40 w1_40 w2_40 μw_40) = f_X11_spreads_l40_167 w1_40 w2_40 μw_40 v1_167 v2_167 μ_167 → ∀ (H : Heap) (locs : List Loc) (ls : Array Slot), HM D a mo μ_167 s.heap H locs → lv_has ls 5 [(0, .ref mo), (1, .int v1_167), (2, .int v2_167)] → W p l e R s m args below meth c H locs 0 0 Q (F0 m 167 ls []) := by
            intro v1_167 v2_167 μ_167 hf H locs ls hM hl
            refine lv_iinc (v := (v2_167 + 1)) (lv' := [(2, .int (v2_167 + 1)), (0, .ref mo), (1, .int v1_167)]) hx hb dX11_spreads_167 hl (k := 2) rfl rfl (by decide) rfl (fun ls hl => ?_)
            refine lv_goto (tgt := 40) hx hb dX11_spreads_170 (by decide) ?_
            exact kc (v1_167, (v2_167 + 1), μ_167) hf H locs ls hM (lv_sub hl [1, 2, 0] rfl)
          have J_l40_50 : ∀ (v1_50 : Int32) (v2_50 : Int32) (v3_50 : Int32) (μ_50 : MS), (b_X11_spreads_40 w1_40 w2_40 μw_40) = f_X11_spreads_l40_50 w1_40 w2_40 μw_40 v1_50 v2_50 v3_50 μ_50 → of_X11_spreads_l40_50 w1_40 w2_40 μw_40 v1_50 v2_50 v3_50 μ_50 → ∀ (H : Heap) (locs : List Loc) (ls : Array Slot), HM D a mo μ_50 s.heap H locs → lv_has ls 5 [(0, .ref mo), (1, .int v1_50), (2, .int v2_50), (3, .int v3_50)] → W p l e R s m args below meth c H locs 0 0 Q (F0 m 50 ls []) := by
            intro v1_50 v2_50 v3_50 μ_50 hf hok H locs ls hM hl
            refine itr_W (f := (s_X11_spreads_50 v2_50)) (o := (os_X11_spreads_50 v2_50)) (fun (v : Int32 × Int32 × MS) => ∀ (H : Heap) (locs : List Loc) (ls : Array Slot), HM D a mo v.2.2 s.heap H locs → lv_has ls 5 [(0, .ref mo), (1, .int v.1), (2, .int v2_50), (3, .int v.2.1)] → W p l e R s m args below meth c H locs 0 0 Q (F0 m 50 ls [])) (fun (v : Int32 × Int32 × MS) => ∀ (H : Heap) (locs : List Loc) (ls : Array Slot), HM D a mo v.2.2 s.heap H locs → lv_has ls 5 [(0, .ref mo), (1, .int v.1), (2, .int v2_50)] → W p l e R s m args below meth c H locs 0 0 Q (F0 m 167 ls [])) ?_ FU (v1_50, v3_50, μ_50) (And.left hok) ?_ _ _ ls hM (lv_sub hl [0, 1, 2, 3] rfl)
            · intro v hov kc ke
              obtain ⟨w1_50, w3_50, μw_50⟩ := v
              have hok : ob_X11_spreads_50 v2_50 w1_50 w3_50 μw_50 := hov
              change ∀ v', (b_X11_spreads_50 v2_50 w1_50 w3_50 μw_50) = (true, v') → _ at kc
              change ∀ v', (b_X11_spreads_50 v2_50 w1_50 w3_50 μw_50) = (false, v') → _ at ke
              have hf : (b_X11_spreads_50 v2_50 w1_50 w3_50 μw_50) = (b_X11_spreads_50 v2_50 w1_50 w3_50 μw_50) := rfl
              intro H locs ls hM hl
              have J_l50_161 : ∀ (v1_161 : Int32) (v3_161 : Int32) (μ_161 : MS), (b_X11_spreads_50 v2_50 w1_50 w3_50 μw_50) = f_X11_spreads_l50_161 v2_50 w1_50 w3_50 μw_50 v1_161 v3_161 μ_161 → ∀ (H : Heap) (locs : List Loc) (ls : Array Slot), HM D a mo μ_161 s.heap H locs → lv_has ls 5 [(0, .ref mo), (1, .int v1_161), (2, .int v2_50), (3, .int v3_161)] → W p l e R s m args below meth c H locs 0 0 Q (F0 m 161 ls []) := by
                intro v1_161 v3_161 μ_161 hf H locs ls hM hl
                refine lv_iinc (v := (v3_161 + 1)) (lv' := [(3, .int (v3_161 + 1)), (0, .ref mo), (1, .int v1_161), (2, .int v2_50)]) hx hb dX11_spreads_161 hl (k := 3) rfl rfl (by decide) rfl (fun ls hl => ?_)
                refine lv_goto (tgt := 50) hx hb dX11_spreads_164 (by decide) ?_
                exact kc (v1_161, (v3_161 + 1), μ_161) hf H locs ls hM (lv_sub hl [1, 2, 3, 0] rfl)
              have J_l50_127 : ∀ (v3_127 : Int32) (t0_127 : Int32) (μ_127 : MS), (b_X11_spreads_50 v2_50 w1_50 w3_50 μw_50) = f_X11_spreads_l50_127 v2_50 w1_50 w3_50 μw_50 v3_127 t0_127 μ_127 → of_X11_spreads_l50_127 v2_50 w1_50 w3_50 μw_50 v3_127 t0_127 μ_127 → ∀ (H : Heap) (locs : List Loc) (ls : Array Slot), HM D a mo μ_127 s.heap H locs → lv_has ls 5 [(0, .ref mo), (2, .int v2_50), (3, .int v3_127)] → W p l e R s m args below meth c H locs 0 0 Q (F0 m 127 ls [.int t0_127]) := by
                intro v3_127 t0_127 μ_127 hf hok H locs ls hM hl
                refine lv_istore (lv' := [(4, .int t0_127), (0, .ref mo), (2, .int v2_50), (3, .int v3_127)]) hx hb dX11_spreads_127 hl (by decide) rfl (fun ls hl => ?_)
                refine lv_aload_n hx hb dX11_spreads_129 rfl (lv_at hl 1 rfl) ?_
                refine mg_lowest C hM dX11_spreads_130 ?_
                refine lv_iload_n hx hb dX11_spreads_133 rfl (lv_at hl 2 rfl) ?_
                refine lv_iload hx hb dX11_spreads_134 (lv_at hl 0 rfl) ?_
                have ok_16 := And.left hok
                have hok := And.right hok
                refine ms_lowest C hM ok_16 dX11_spreads_136 (fun H locs hM => ?_)
                refine lv_aload_n hx hb dX11_spreads_137 rfl (lv_at hl 1 rfl) ?_
                refine mg_lowest C hM dX11_spreads_138 ?_
                refine lv_iload_n hx hb dX11_spreads_141 rfl (lv_at hl 3 rfl) ?_
                refine lv_iload hx hb dX11_spreads_142 (lv_at hl 0 rfl) ?_
                have ok_17 := And.left hok
                have hok := And.right hok
                refine ms_lowest C hM ok_17 dX11_spreads_144 (fun H locs hM => ?_)
                refine lv_aload_n hx hb dX11_spreads_145 rfl (lv_at hl 1 rfl) ?_
                refine mg_areJoined C hM dX11_spreads_146 ?_
                refine lv_iload_n hx hb dX11_spreads_149 rfl (lv_at hl 2 rfl) ?_
                refine lv_iconst (v := 1) hx hb dX11_spreads_150 (by decide) ?_
                have ok_18 := And.left hok
                have hok := And.right hok
                refine ms_areJoined C hM ok_18 dX11_spreads_151 (fun H locs hM => ?_)
                refine lv_aload_n hx hb dX11_spreads_152 rfl (lv_at hl 1 rfl) ?_
                refine mg_areJoined C hM dX11_spreads_153 ?_
                refine lv_iload_n hx hb dX11_spreads_156 rfl (lv_at hl 3 rfl) ?_
                refine lv_iconst (v := 1) hx hb dX11_spreads_157 (by decide) ?_
                have ok_19 := And.left hok
                have hok := And.right hok
                refine ms_areJoined C hM ok_19 dX11_spreads_158 (fun H locs hM => ?_)
                refine lv_iconst (v := 1) hx hb dX11_spreads_159 (by decide) ?_
                refine lv_istore_n (lv' := [(1, .int 1), (4, .int t0_127), (0, .ref mo), (2, .int v2_50), (3, .int v3_127)]) hx hb dX11_spreads_160 rfl hl (by decide) rfl (fun ls hl => ?_)
                exact J_l50_161 1 v3_127 (mI (mI (mI (mI μ_127 23 (ix v2_50) t0_127) 23 (ix v3_127) t0_127) 24 (ix v2_50) (bz 1)) 24 (ix v3_127) (bz 1)) hf _ _ ls hM (lv_sub hl [2, 0, 3, 4] rfl)
              have J_l50_94 : ∀ (v1_94 : Int32) (v3_94 : Int32) (t0_94 : Int32) (μ_94 : MS), (b_X11_spreads_50 v2_50 w1_50 w3_50 μw_50) = f_X11_spreads_l50_94 v2_50 w1_50 w3_50 μw_50 v1_94 v3_94 t0_94 μ_94 → of_X11_spreads_l50_94 v2_50 w1_50 w3_50 μw_50 v1_94 v3_94 t0_94 μ_94 → ∀ (H : Heap) (locs : List Loc) (ls : Array Slot), HM D a mo μ_94 s.heap H locs → lv_has ls 5 [(0, .ref mo), (1, .int v1_94), (2, .int v2_50), (3, .int v3_94)] → W p l e R s m args below meth c H locs 0 0 Q (F0 m 94 ls [.int t0_94]) := by
                intro v1_94 v3_94 t0_94 μ_94 hf hok H locs ls hM hl
                refine lv_if_eq (tgt := 161) hx hb dX11_spreads_94 (by decide) (fun c_11 => ?_) (fun c_11 => ?_)
                · have hf := hf.trans (if_pos c_11)
                  have hok := oif_pos hok c_11
                  exact J_l50_161 v1_94 v3_94 μ_94 hf _ _ ls hM (lv_sub hl [0, 1, 2, 3] rfl)
                · have hf := hf.trans (if_neg c_11)
                  have hok := oif_neg hok c_11
                  refine lv_aload_n hx hb dX11_spreads_97 rfl (lv_at hl 0 rfl) ?_
                  refine mg_lowest C hM dX11_spreads_98 ?_
                  refine lv_iload_n hx hb dX11_spreads_101 rfl (lv_at hl 2 rfl) ?_
                  have ok_12 := And.left hok
                  have hok := And.right hok
                  refine ma_lowest C hM ok_12 dX11_spreads_102 ?_
                  refine lv_aload_n hx hb dX11_spreads_103 rfl (lv_at hl 0 rfl) ?_
                  refine mg_lowest C hM dX11_spreads_104 ?_
                  refine lv_iload_n hx hb dX11_spreads_107 rfl (lv_at hl 3 rfl) ?_
                  have ok_13 := And.left hok
                  have hok := And.right hok
                  refine ma_lowest C hM ok_13 dX11_spreads_108 ?_
                  refine lv_icmp_ge (tgt := 121) hx hb dX11_spreads_109 (by decide) (fun c_14 => ?_) (fun c_14 => ?_)
                  · have hf := hf.trans (if_pos c_14)
                    have hok := oif_pos hok c_14
                    refine lv_aload_n hx hb dX11_spreads_121 rfl (lv_at hl 0 rfl) ?_
                    refine mg_lowest C hM dX11_spreads_122 ?_
                    refine lv_iload_n hx hb dX11_spreads_125 rfl (lv_at hl 3 rfl) ?_
                    have ok_15 := And.left hok
                    have hok := And.right hok
                    refine ma_lowest C hM ok_15 dX11_spreads_126 ?_
                    exact J_l50_127 v3_94 (mi μ_94 23 (ix v3_94)) μ_94 hf hok _ _ ls hM (lv_sub hl [0, 2, 3] rfl)
                  · have hf := hf.trans (if_neg c_14)
                    have hok := oif_neg hok c_14
                    refine lv_aload_n hx hb dX11_spreads_112 rfl (lv_at hl 0 rfl) ?_
                    refine mg_lowest C hM dX11_spreads_113 ?_
                    refine lv_iload_n hx hb dX11_spreads_116 rfl (lv_at hl 2 rfl) ?_
                    have ok_20 := And.left hok
                    have hok := And.right hok
                    refine ma_lowest C hM ok_20 dX11_spreads_117 ?_
                    refine lv_goto (tgt := 127) hx hb dX11_spreads_118 (by decide) ?_
                    exact J_l50_127 v3_94 (mi μ_94 23 (ix v2_50)) μ_94 hf hok _ _ ls hM (lv_sub hl [0, 2, 3] rfl)
              have J_l50_88 : ∀ (v1_88 : Int32) (v3_88 : Int32) (μ_88 : MS), (b_X11_spreads_50 v2_50 w1_50 w3_50 μw_50) = f_X11_spreads_l50_88 v2_50 w1_50 w3_50 μw_50 v1_88 v3_88 μ_88 → of_X11_spreads_l50_88 v2_50 w1_50 w3_50 μw_50 v1_88 v3_88 μ_88 → ∀ (H : Heap) (locs : List Loc) (ls : Array Slot), HM D a mo μ_88 s.heap H locs → lv_has ls 5 [(0, .ref mo), (1, .int v1_88), (2, .int v2_50), (3, .int v3_88)] → W p l e R s m args below meth c H locs 0 0 Q (F0 m 88 ls []) := by
                intro v1_88 v3_88 μ_88 hf hok H locs ls hM hl
                refine lv_aload_n hx hb dX11_spreads_88 rfl (lv_at hl 0 rfl) ?_
                refine lv_iload_n hx hb dX11_spreads_89 rfl (lv_at hl 2 rfl) ?_
                refine lv_iload_n hx hb dX11_spreads_90 rfl (lv_at hl 3 rfl) ?_
                have ok_10 := And.left hok
                have hok := And.right hok
                refine cc_M (av := [.int v2_50, .int v3_88]) C hM (k_X11_join l D a mo μ_88 v2_50 v3_88 ok_10) cw_X11_226 (okR_of hRf hRl (Nat.le_of_ble_eq_true rfl) (Nat.le_of_ble_eq_true rfl)) rfl rfl hl.1 (Nat.le_of_ble_eq_true rfl) (Nat.zero_le _) (Nat.zero_le _) dX11_spreads_91 (fun H locs hM => ?_)
                exact J_l50_94 v1_88 v3_88 ((f_X11_join μ_88 v2_50 v3_88).1) ((f_X11_join μ_88 v2_50 v3_88).2) hf hok _ _ ls hM (lv_sub hl [0, 1, 2, 3] rfl)
              refine lv_iload_n hx hb dX11_spreads_50 rfl (lv_at hl 3 rfl) ?_
              refine lv_iload_n hx hb dX11_spreads_51 rfl (lv_at hl 2 rfl) ?_
              refine lv_icmp_ge (tgt := 167) hx hb dX11_spreads_52 (by decide) (fun c_6 => ?_) (fun c_6 => ?_)
              · have hf := hf.trans (if_pos c_6)
                have hok := oif_pos hok c_6
                exact ke (w1_50, w3_50, μw_50) hf H locs ls hM (lv_sub hl [0, 1, 2] rfl)
              · have hf := hf.trans (if_neg c_6)
                have hok := oif_neg hok c_6
                refine lv_aload_n hx hb dX11_spreads_55 rfl (lv_at hl 0 rfl) ?_
                refine mg_lowest C hM dX11_spreads_56 ?_
                refine lv_iload_n hx hb dX11_spreads_59 rfl (lv_at hl 2 rfl) ?_
                have ok_7 := And.left hok
                have hok := And.right hok
                refine ma_lowest C hM ok_7 dX11_spreads_60 ?_
                refine lv_aload_n hx hb dX11_spreads_61 rfl (lv_at hl 0 rfl) ?_
                refine mg_lowest C hM dX11_spreads_62 ?_
                refine lv_iload_n hx hb dX11_spreads_65 rfl (lv_at hl 3 rfl) ?_
                have ok_8 := And.left hok
                have hok := And.right hok
                refine ma_lowest C hM ok_8 dX11_spreads_66 ?_
                refine lv_icmp_ne (tgt := 88) hx hb dX11_spreads_67 (by decide) (fun c_9 => ?_) (fun c_9 => ?_)
                · have hf := hf.trans (if_neg c_9)
                  have hok := oif_neg hok c_9
                  exact J_l50_88 w1_50 w3_50 μw_50 hf hok _ _ ls hM (lv_sub hl [0, 1, 2, 3] rfl)
                · have hf := hf.trans (if_pos c_9)
                  have hok := oif_pos hok c_9
                  refine lv_aload_n hx hb dX11_spreads_70 rfl (lv_at hl 0 rfl) ?_
                  refine mg_areJoined C hM dX11_spreads_71 ?_
                  refine lv_iload_n hx hb dX11_spreads_74 rfl (lv_at hl 2 rfl) ?_
                  have ok_21 := And.left hok
                  have hok := And.right hok
                  refine ma_areJoined C hM ok_21 dX11_spreads_75 ?_
                  refine lv_if_eq (tgt := 88) hx hb dX11_spreads_76 (by decide) (fun c_22 => ?_) (fun c_22 => ?_)
                  · have hf := hf.trans (if_pos c_22)
                    have hok := oif_pos hok c_22
                    exact J_l50_88 w1_50 w3_50 μw_50 hf hok _ _ ls hM (lv_sub hl [0, 1, 2, 3] rfl)
                  · have hf := hf.trans (if_neg c_22)
                    have hok := oif_neg hok c_22
                    refine lv_aload_n hx hb dX11_spreads_79 rfl (lv_at hl 0 rfl) ?_
                    refine mg_areJoined C hM dX11_spreads_80 ?_
                    refine lv_iload_n hx hb dX11_spreads_83 rfl (lv_at hl 3 rfl) ?_
                    have ok_23 := And.left hok
                    have hok := And.right hok
                    refine ma_areJoined C hM ok_23 dX11_spreads_84 ?_
                    refine lv_if_ne (tgt := 161) hx hb dX11_spreads_85 (by decide) (fun c_24 => ?_) (fun c_24 => ?_)
                    · have hf := hf.trans (if_neg c_24)
                      have hok := oif_neg hok c_24
                      exact J_l50_161 w1_50 w3_50 μw_50 hf _ _ ls hM (lv_sub hl [0, 1, 2, 3] rfl)
                    · have hf := hf.trans (if_pos c_24)
                      have hok := oif_pos hok c_24
                      exact J_l50_88 w1_50 w3_50 μw_50 hf hok _ _ ls hM (lv_sub hl [0, 1, 2, 3] rfl)
            · have hok := And.right hok
              intro H locs ls hM hl
              exact J_l40_167 ((itr (s_X11_spreads_50 v2_50) FU (v1_50, v3_50, μ_50)).1) v2_50 ((itr (s_X11_spreads_50 v2_50) FU (v1_50, v3_50, μ_50)).2.2) hf _ _ ls hM (lv_sub hl [0, 1, 2] rfl)
          refine lv_iload_n hx hb dX11_spreads_40 rfl (lv_at hl 2 rfl) ?_
          refine lv_aload_n hx hb dX11_spreads_41 rfl (lv_at hl 0 rfl) ?_
          refine mg_sightings C hM dX11_spreads_42 ?_
          refine lv_icmp_ge (tgt := 173) hx hb dX11_spreads_45 (by decide) (fun c_5 => ?_) (fun c_5 => ?_)
          · have hf := hf.trans (if_pos c_5)
            have hok := oif_pos hok c_5
            exact ke (w1_40, w2_40, μw_40) hf H locs ls hM (lv_sub hl [0, 1] rfl)
          · have hf := hf.trans (if_neg c_5)
            have hok := oif_neg hok c_5
            refine lv_iconst (v := 0) hx hb dX11_spreads_48 (by decide) ?_
            refine lv_istore_n (lv' := [(3, .int 0), (0, .ref mo), (1, .int w1_40), (2, .int w2_40)]) hx hb dX11_spreads_49 rfl hl (by decide) rfl (fun ls hl => ?_)
            exact J_l40_50 w1_40 w2_40 0 μw_40 hf hok _ _ ls hM (lv_sub hl [1, 2, 3, 0] rfl)
        · have hok := And.right hok
          intro H locs ls hM hl
          exact J_l32_173 ((itr s_X11_spreads_40 FU (v1_40, v2_40, μ_40)).1) ((itr s_X11_spreads_40 FU (v1_40, v2_40, μ_40)).2.2) hf _ _ ls hM (lv_sub hl [0, 1] rfl)
      refine lv_iload_n hx hb dX11_spreads_32 rfl (lv_at hl 1 rfl) ?_
      refine lv_if_eq (tgt := 176) hx hb dX11_spreads_33 (by decide) (fun c_4 => ?_) (fun c_4 => ?_)
      · have hf := hf.trans (if_pos c_4)
        have hok := oif_pos hok c_4
        exact ke (w1_32, μw_32) hf H locs ls hM (lv_sub hl [] rfl)
      · have hf := hf.trans (if_neg c_4)
        have hok := oif_neg hok c_4
        refine lv_iconst (v := 0) hx hb dX11_spreads_36 (by decide) ?_
        refine lv_istore_n (lv' := [(1, .int 0), (0, .ref mo)]) hx hb dX11_spreads_37 rfl hl (by decide) rfl (fun ls hl => ?_)
        refine lv_iconst (v := 0) hx hb dX11_spreads_38 (by decide) ?_
        refine lv_istore_n (lv' := [(2, .int 0), (1, .int 0), (0, .ref mo)]) hx hb dX11_spreads_39 rfl hl (by decide) rfl (fun ls hl => ?_)
        exact J_l32_40 0 0 μw_32 hf hok _ _ ls hM (lv_sub hl [2, 1, 0] rfl)
    · have hok := And.right hok
      intro H locs ls hM hl
      exact J_176 ((itr s_X11_spreads_32 FU (v1_32, μ_32)).2) hf _ _ ls hM (lv_sub hl [] rfl)
  have J_30 : ∀ (μ_30 : MS), (f_X11_spreads μ) = f_X11_spreads_30 μ μ_30 → of_X11_spreads_30 μ μ_30 → ∀ (H : Heap) (locs : List Loc) (ls : Array Slot), HM D a mo μ_30 s.heap H locs → lv_has ls 5 [(0, .ref mo)] → W p l e R s m args below meth c H locs 0 0 Q (F0 m 30 ls []) := by
    intro μ_30 hf hok H locs ls hM hl
    refine lv_iconst (v := 1) hx hb dX11_spreads_30 (by decide) ?_
    refine lv_istore_n (lv' := [(1, .int 1), (0, .ref mo)]) hx hb dX11_spreads_31 rfl hl (by decide) rfl (fun ls hl => ?_)
    exact J_32 1 μ_30 hf hok _ _ ls hM (lv_sub hl [1, 0] rfl)
  have J_2 : ∀ (v1_2 : Int32) (μ_2 : MS), (f_X11_spreads μ) = f_X11_spreads_2 μ v1_2 μ_2 → of_X11_spreads_2 μ v1_2 μ_2 → ∀ (H : Heap) (locs : List Loc) (ls : Array Slot), HM D a mo μ_2 s.heap H locs → lv_has ls 5 [(0, .ref mo), (1, .int v1_2)] → W p l e R s m args below meth c H locs 0 0 Q (F0 m 2 ls []) := by
    intro v1_2 μ_2 hf hok H locs ls hM hl
    refine itr_W (f := s_X11_spreads_2) (o := os_X11_spreads_2) (fun (v : Int32 × MS) => ∀ (H : Heap) (locs : List Loc) (ls : Array Slot), HM D a mo v.2 s.heap H locs → lv_has ls 5 [(0, .ref mo), (1, .int v.1)] → W p l e R s m args below meth c H locs 0 0 Q (F0 m 2 ls [])) (fun (v : Int32 × MS) => ∀ (H : Heap) (locs : List Loc) (ls : Array Slot), HM D a mo v.2 s.heap H locs → lv_has ls 5 [(0, .ref mo)] → W p l e R s m args below meth c H locs 0 0 Q (F0 m 30 ls [])) ?_ FU (v1_2, μ_2) (And.left hok) ?_ _ _ ls hM (lv_sub hl [0, 1] rfl)
    · intro v hov kc ke
      obtain ⟨w1_2, μw_2⟩ := v
      have hok : ob_X11_spreads_2 w1_2 μw_2 := hov
      change ∀ v', (b_X11_spreads_2 w1_2 μw_2) = (true, v') → _ at kc
      change ∀ v', (b_X11_spreads_2 w1_2 μw_2) = (false, v') → _ at ke
      have hf : (b_X11_spreads_2 w1_2 μw_2) = (b_X11_spreads_2 w1_2 μw_2) := rfl
      intro H locs ls hM hl
      refine lv_iload_n hx hb dX11_spreads_2 rfl (lv_at hl 1 rfl) ?_
      refine lv_aload_n hx hb dX11_spreads_3 rfl (lv_at hl 0 rfl) ?_
      refine mg_sightings C hM dX11_spreads_4 ?_
      refine lv_icmp_ge (tgt := 30) hx hb dX11_spreads_7 (by decide) (fun c_1 => ?_) (fun c_1 => ?_)
      · have hf := hf.trans (if_pos c_1)
        have hok := oif_pos hok c_1
        exact ke (w1_2, μw_2) hf H locs ls hM (lv_sub hl [0] rfl)
      · have hf := hf.trans (if_neg c_1)
        have hok := oif_neg hok c_1
        refine lv_aload_n hx hb dX11_spreads_10 rfl (lv_at hl 0 rfl) ?_
        refine mg_lowest C hM dX11_spreads_11 ?_
        refine lv_iload_n hx hb dX11_spreads_14 rfl (lv_at hl 1 rfl) ?_
        refine lv_iload_n hx hb dX11_spreads_15 rfl (lv_at hl 1 rfl) ?_
        have ok_2 := And.left hok
        have hok := And.right hok
        refine ms_lowest C hM ok_2 dX11_spreads_16 (fun H locs hM => ?_)
        refine lv_aload_n hx hb dX11_spreads_17 rfl (lv_at hl 0 rfl) ?_
        refine mg_areJoined C hM dX11_spreads_18 ?_
        refine lv_iload_n hx hb dX11_spreads_21 rfl (lv_at hl 1 rfl) ?_
        refine lv_iconst (v := 0) hx hb dX11_spreads_22 (by decide) ?_
        have ok_3 := And.left hok
        have hok := And.right hok
        refine ms_areJoined C hM ok_3 dX11_spreads_23 (fun H locs hM => ?_)
        refine lv_iinc (v := (w1_2 + 1)) (lv' := [(1, .int (w1_2 + 1)), (0, .ref mo)]) hx hb dX11_spreads_24 hl (k := 1) rfl rfl (by decide) rfl (fun ls hl => ?_)
        refine lv_goto (tgt := 2) hx hb dX11_spreads_27 (by decide) ?_
        exact kc ((w1_2 + 1), (mI (mI μw_2 23 (ix w1_2) w1_2) 24 (ix w1_2) (bz 0))) hf H locs ls hM (lv_sub hl [1, 0] rfl)
    · have hok := And.right hok
      intro H locs ls hM hl
      exact J_30 ((itr s_X11_spreads_2 FU (v1_2, μ_2)).2) hf hok _ _ ls hM (lv_sub hl [0] rfl)
  refine lv_iconst (v := 0) hx hb dX11_spreads_0 (by decide) ?_
  refine lv_istore_n (lv' := [(1, .int 0), (0, .ref mo)]) hx hb dX11_spreads_1 rfl hl (by decide) rfl (fun ls hl => ?_)
  exact J_2 0 μ hf hok _ _ ls hM (lv_sub hl [1, 0] rfl)
def f_X11_fireballOf_36 (μ : MS) (p1 : Int32) (μ_36 : MS) : Int32 × MS := (if (mi μ_36 24 (ix p1)) = 0 then ((-1), μ_36) else ((mi μ_36 23 (ix p1)), μ_36))
def of_X11_fireballOf_36 (μ : MS) (p1 : Int32) (μ_36 : MS) : Prop := (vp_in p1 60 ∧ (oif ((mi μ_36 24 (ix p1)) = 0) True (vp_in p1 60 ∧ True)))
def f_X11_fireballOf_20 (μ : MS) (p1 : Int32) (t0_20 : Int32) : Int32 × MS := (if t0_20 ≤ 0 then (f_X11_fireballOf_36 μ p1 (f_X11_spreads (mI μ 0 0 t0_20))) else (0, (mI μ 0 0 t0_20)))
def of_X11_fireballOf_20 (μ : MS) (p1 : Int32) (t0_20 : Int32) : Prop := (oif (t0_20 ≤ 0) (of_X11_spreads (mI μ 0 0 t0_20) ∧ (of_X11_fireballOf_36 μ p1 (f_X11_spreads (mI μ 0 0 t0_20)))) True)
def f_X11_fireballOf (μ : MS) (p1 : Int32) : Int32 × MS := (if (f_X11_isIn p1 0 ((mi μ 13 0) - 1)) = 0 then (f_X11_fireballOf_20 μ p1 1) else (f_X11_fireballOf_20 μ p1 0))
def of_X11_fireballOf (μ : MS) (p1 : Int32) : Prop := (oif ((f_X11_isIn p1 0 ((mi μ 13 0) - 1)) = 0) (of_X11_fireballOf_20 μ p1 1) (of_X11_fireballOf_20 μ p1 0))
set_option maxHeartbeats 4000000 in
set_option maxRecDepth 100000 in
theorem k_X11_fireballOf (l : Launch) (D : va_G) (a : Nat → ClassId) (mo : Nat) (μ : MS) (p1 : Int32) (hok : of_X11_fireballOf μ p1) : KM l D a mo yX11_fireballOf cX11_fireballOf 2 ((some .int)) 5 129 [.int p1] μ (some (.int (f_X11_fireballOf μ p1).1)) (f_X11_fireballOf μ p1).2 := by
  refine goMi (by decide +kernel) (Nat.le_of_ble_eq_true rfl) ?_
  intro p e s m args below meth c ls R Q hRf hRl C hl hB
  obtain ⟨hM, ret⟩ := hB
  have hl : lv_has ls 2 [(0, .ref mo), (1, .int p1)] := hl
  have hx := C.1.1
  have hb := C.1.2.1
  have hts := C.1.2.2.2.2
  have hown := C.1.2.2.2.1
  have hf : (f_X11_fireballOf μ p1) = (f_X11_fireballOf μ p1) := rfl
  have J_36 : ∀ (μ_36 : MS), (f_X11_fireballOf μ p1) = f_X11_fireballOf_36 μ p1 μ_36 → of_X11_fireballOf_36 μ p1 μ_36 → ∀ (H : Heap) (locs : List Loc) (ls : Array Slot), HM D a mo μ_36 s.heap H locs → lv_has ls 2 [(0, .ref mo), (1, .int p1)] → W p l e R s m args below meth c H locs 0 0 Q (F0 m 36 ls []) := by
    intro μ_36 hf hok H locs ls hM hl
    refine lv_aload_n hx hb dX11_fireballOf_36 rfl (lv_at hl 0 rfl) ?_
    refine mg_areJoined C hM dX11_fireballOf_37 ?_
    refine lv_iload_n hx hb dX11_fireballOf_40 rfl (lv_at hl 1 rfl) ?_
    have ok_4 := And.left hok
    have hok := And.right hok
    refine ma_areJoined C hM ok_4 dX11_fireballOf_41 ?_
    refine lv_if_eq (tgt := 54) hx hb dX11_fireballOf_42 (by decide) (fun c_5 => ?_) (fun c_5 => ?_)
    · have hf := hf.trans (if_pos c_5)
      have hok := oif_pos hok c_5
      refine lv_iconst (v := (-1)) hx hb dX11_fireballOf_54 (by decide) ?_
      exact ret _ _ _ _ _ _ hM dX11_fireballOf_55 hf
    · have hf := hf.trans (if_neg c_5)
      have hok := oif_neg hok c_5
      refine lv_aload_n hx hb dX11_fireballOf_45 rfl (lv_at hl 0 rfl) ?_
      refine mg_lowest C hM dX11_fireballOf_46 ?_
      refine lv_iload_n hx hb dX11_fireballOf_49 rfl (lv_at hl 1 rfl) ?_
      have ok_6 := And.left hok
      have hok := And.right hok
      refine ma_lowest C hM ok_6 dX11_fireballOf_50 ?_
      refine lv_goto (tgt := 55) hx hb dX11_fireballOf_51 (by decide) ?_
      exact ret _ _ _ _ _ _ hM dX11_fireballOf_55 hf
  have J_20 : ∀ (t0_20 : Int32), (f_X11_fireballOf μ p1) = f_X11_fireballOf_20 μ p1 t0_20 → of_X11_fireballOf_20 μ p1 t0_20 → ∀ (ls : Array Slot), lv_has ls 2 [(0, .ref mo), (1, .int p1)] → W p l e R s m args below meth c s.heap [] 0 0 Q (F0 m 20 ls [.int t0_20, .ref mo]) := by
    intro t0_20 hf hok ls hl
    refine mp_thrown C hM dX11_fireballOf_20 (fun H locs hM => ?_)
    refine lv_aload_n hx hb dX11_fireballOf_23 rfl (lv_at hl 0 rfl) ?_
    refine mg_thrown C hM dX11_fireballOf_24 ?_
    refine lv_if_le (tgt := 32) hx hb dX11_fireballOf_27 (by decide) (fun c_2 => ?_) (fun c_2 => ?_)
    · have hf := hf.trans (if_pos c_2)
      have hok := oif_pos hok c_2
      refine lv_aload_n hx hb dX11_fireballOf_32 rfl (lv_at hl 0 rfl) ?_
      have ok_3 := And.left hok
      have hok := And.right hok
      refine cc_M (av := []) C hM (k_X11_spreads l D a mo (mI μ 0 0 t0_20) ok_3) cw_X11_229 (okR_of hRf hRl (Nat.le_of_ble_eq_true rfl) (Nat.le_of_ble_eq_true rfl)) rfl rfl hl.1 (Nat.le_of_ble_eq_true rfl) (Nat.zero_le _) (Nat.zero_le _) dX11_fireballOf_33 (fun H locs hM => ?_)
      exact J_36 (f_X11_spreads (mI μ 0 0 t0_20)) hf hok _ _ ls hM (lv_sub hl [0, 1] rfl)
    · have hf := hf.trans (if_neg c_2)
      have hok := oif_neg hok c_2
      refine lv_iconst (v := 0) hx hb dX11_fireballOf_30 (by decide) ?_
      exact ret _ _ _ _ _ _ hM dX11_fireballOf_31 hf
  refine lv_aload_n hx hb dX11_fireballOf_0 rfl (lv_at hl 0 rfl) ?_
  refine lv_iload_n hx hb dX11_fireballOf_1 rfl (lv_at hl 1 rfl) ?_
  refine lv_iconst (v := 0) hx hb dX11_fireballOf_2 (by decide) ?_
  refine lv_aload_n hx hb dX11_fireballOf_3 rfl (lv_at hl 0 rfl) ?_
  refine mg_sightings C hM dX11_fireballOf_4 ?_
  refine lv_iconst (v := 1) hx hb dX11_fireballOf_7 (by decide) ?_
  refine lv_isub hx hb dX11_fireballOf_8 ?_
  refine cc_S (av := [.int p1, .int 0, .int ((mi μ 13 0) - 1)]) C (k_X11_isIn l D a p1 0 ((mi μ 13 0) - 1)) cw_X11_158 (okR_of hRf hRl (Nat.le_of_ble_eq_true rfl) (Nat.le_of_ble_eq_true rfl)) rfl rfl hl.1 (Nat.le_of_ble_eq_true rfl) (Nat.zero_le _) (Nat.zero_le _) dX11_fireballOf_9 ?_
  refine lv_if_eq (tgt := 19) hx hb dX11_fireballOf_12 (by decide) (fun c_1 => ?_) (fun c_1 => ?_)
  · have hf := hf.trans (if_pos c_1)
    have hok := oif_pos hok c_1
    refine lv_iconst (v := 1) hx hb dX11_fireballOf_19 (by decide) ?_
    exact J_20 1 hf hok ls (lv_sub hl [0, 1] rfl)
  · have hf := hf.trans (if_neg c_1)
    have hok := oif_neg hok c_1
    refine lv_iconst (v := 0) hx hb dX11_fireballOf_15 (by decide) ?_
    refine lv_goto (tgt := 20) hx hb dX11_fireballOf_16 (by decide) ?_
    exact J_20 0 hf hok ls (lv_sub hl [0, 1] rfl)
def f_X11_fireball (μ : MS) (p1 : Int32) : Int32 × MS := ((f_X11_fireballOf μ p1).1, (f_X11_fireballOf μ p1).2)
def of_X11_fireball (μ : MS) (p1 : Int32) : Prop := (of_X11_fireballOf μ p1 ∧ True)
set_option maxHeartbeats 4000000 in
set_option maxRecDepth 100000 in
theorem k_X11_fireball (l : Launch) (D : va_G) (a : Nat → ClassId) (mo : Nat) (μ : MS) (p1 : Int32) (hok : of_X11_fireball μ p1) : KM l D a mo yX11_fireball cX11_fireball 2 ((some .int)) 6 150 [.int p1] μ (some (.int (f_X11_fireball μ p1).1)) (f_X11_fireball μ p1).2 := by
  refine goMi (by decide +kernel) (Nat.le_of_ble_eq_true rfl) ?_
  intro p e s m args below meth c ls R Q hRf hRl C hl hB
  obtain ⟨hM, ret⟩ := hB
  have hl : lv_has ls 2 [(0, .ref mo), (1, .int p1)] := hl
  have hx := C.1.1
  have hb := C.1.2.1
  have hts := C.1.2.2.2.2
  have hown := C.1.2.2.2.1
  have hf : (f_X11_fireball μ p1) = (f_X11_fireball μ p1) := rfl
  refine lv_aload_n hx hb dX11_fireball_0 rfl (lv_at hl 0 rfl) ?_
  refine lv_iload_n hx hb dX11_fireball_1 rfl (lv_at hl 1 rfl) ?_
  have ok_1 := And.left hok
  have hok := And.right hok
  refine cc_M (av := [.int p1]) C hM (k_X11_fireballOf l D a mo μ p1 ok_1) cw_X11_232 (okR_of hRf hRl (Nat.le_of_ble_eq_true rfl) (Nat.le_of_ble_eq_true rfl)) rfl rfl hl.1 (Nat.le_of_ble_eq_true rfl) (Nat.zero_le _) (Nat.zero_le _) dX11_fireball_2 (fun H locs hM => ?_)
  exact ret _ _ _ _ _ _ hM dX11_fireball_5 hf
def f_X11_fireballAnew (μ : MS) (p1 : Int32) : Int32 × MS := ((f_X11_fireballOf μ p1).1, (f_X11_fireballOf μ p1).2)
def of_X11_fireballAnew (μ : MS) (p1 : Int32) : Prop := (of_X11_fireballOf μ p1 ∧ True)
set_option maxHeartbeats 4000000 in
set_option maxRecDepth 100000 in
theorem k_X11_fireballAnew (l : Launch) (D : va_G) (a : Nat → ClassId) (mo : Nat) (μ : MS) (p1 : Int32) (hok : of_X11_fireballAnew μ p1) : KM l D a mo yX11_fireballAnew cX11_fireballAnew 2 ((some .int)) 6 150 [.int p1] μ (some (.int (f_X11_fireballAnew μ p1).1)) (f_X11_fireballAnew μ p1).2 := by
  refine goMi (by decide +kernel) (Nat.le_of_ble_eq_true rfl) ?_
  intro p e s m args below meth c ls R Q hRf hRl C hl hB
  obtain ⟨hM, ret⟩ := hB
  have hl : lv_has ls 2 [(0, .ref mo), (1, .int p1)] := hl
  have hx := C.1.1
  have hb := C.1.2.1
  have hts := C.1.2.2.2.2
  have hown := C.1.2.2.2.1
  have hf : (f_X11_fireballAnew μ p1) = (f_X11_fireballAnew μ p1) := rfl
  refine lv_aload_n hx hb dX11_fireballAnew_0 rfl (lv_at hl 0 rfl) ?_
  refine lv_iload_n hx hb dX11_fireballAnew_1 rfl (lv_at hl 1 rfl) ?_
  have ok_1 := And.left hok
  have hok := And.right hok
  refine cc_M (av := [.int p1]) C hM (k_X11_fireballOf l D a mo μ p1 ok_1) cw_X11_232 (okR_of hRf hRl (Nat.le_of_ble_eq_true rfl) (Nat.le_of_ble_eq_true rfl)) rfl rfl hl.1 (Nat.le_of_ble_eq_true rfl) (Nat.zero_le _) (Nat.zero_le _) dX11_fireballAnew_2 (fun H locs hM => ?_)
  exact ret _ _ _ _ _ _ hM dX11_fireballAnew_5 hf
def f_X11_isFireball (μ : MS) (p1 : Int32) : Int32 := (if (f_X11_isIn p1 0 ((mi μ 13 0) - 1)) = 0 then 0 else (if (mi μ 24 (ix p1)) = 0 then 0 else (if (mi μ 23 (ix p1)) = p1 then 1 else 0)))
def of_X11_isFireball (μ : MS) (p1 : Int32) : Prop := (oif ((f_X11_isIn p1 0 ((mi μ 13 0) - 1)) = 0) True (vp_in p1 60 ∧ (oif ((mi μ 24 (ix p1)) = 0) True (vp_in p1 60 ∧ True))))
set_option maxHeartbeats 4000000 in
set_option maxRecDepth 100000 in
theorem k_X11_isFireball (l : Launch) (D : va_G) (a : Nat → ClassId) (mo : Nat) (μ : MS) (p1 : Int32) (hok : of_X11_isFireball μ p1) : K0 l yX11_isFireball cX11_isFireball 2 ((some .boolean)) 1 22 [.ref mo, .int p1] (BM D a mo μ) (.int (f_X11_isFireball μ p1)) := by
  refine go0z (D := D) (a := a) (by decide +kernel) (fun _ h => h.1) (Nat.le_of_ble_eq_true rfl) ?_
  intro p e s m args below meth c ls R Q hRf hRl C hl hB
  obtain ⟨hB, ret⟩ := hB
  have hM : HM D a mo μ s.heap s.heap [] := ⟨hB.2, va_S.rf⟩
  have hl : lv_has ls 2 [(0, .ref mo), (1, .int p1)] := hl
  have hx := C.1.1
  have hb := C.1.2.1
  have hts := C.1.2.2.2.2
  have hown := C.1.2.2.2.1
  have hf : (f_X11_isFireball μ p1) = (f_X11_isFireball μ p1) := rfl
  refine lv_iload_n hx hb dX11_isFireball_0 rfl (lv_at hl 1 rfl) ?_
  refine lv_iconst (v := 0) hx hb dX11_isFireball_1 (by decide) ?_
  refine lv_aload_n hx hb dX11_isFireball_2 rfl (lv_at hl 0 rfl) ?_
  refine mg_sightings C hM dX11_isFireball_3 ?_
  refine lv_iconst (v := 1) hx hb dX11_isFireball_6 (by decide) ?_
  refine lv_isub hx hb dX11_isFireball_7 ?_
  refine cc_S (av := [.int p1, .int 0, .int ((mi μ 13 0) - 1)]) C (k_X11_isIn l D a p1 0 ((mi μ 13 0) - 1)) cw_X11_158 (okR_of hRf hRl (Nat.le_of_ble_eq_true rfl) (Nat.le_of_ble_eq_true rfl)) rfl rfl hl.1 (Nat.le_of_ble_eq_true rfl) (Nat.zero_le _) (Nat.zero_le _) dX11_isFireball_8 ?_
  refine lv_if_eq (tgt := 37) hx hb dX11_isFireball_11 (by decide) (fun c_1 => ?_) (fun c_1 => ?_)
  · have hf := hf.trans (if_pos c_1)
    have hok := oif_pos hok c_1
    refine lv_iconst (v := 0) hx hb dX11_isFireball_37 (by decide) ?_
    exact ret _ _ _ dX11_isFireball_38 (by unfold zb; decide) hf
  · have hf := hf.trans (if_neg c_1)
    have hok := oif_neg hok c_1
    refine lv_aload_n hx hb dX11_isFireball_14 rfl (lv_at hl 0 rfl) ?_
    refine mg_areJoined C hM dX11_isFireball_15 ?_
    refine lv_iload_n hx hb dX11_isFireball_18 rfl (lv_at hl 1 rfl) ?_
    have ok_2 := And.left hok
    have hok := And.right hok
    refine ma_areJoined C hM ok_2 dX11_isFireball_19 ?_
    refine lv_if_eq (tgt := 37) hx hb dX11_isFireball_20 (by decide) (fun c_3 => ?_) (fun c_3 => ?_)
    · have hf := hf.trans (if_pos c_3)
      have hok := oif_pos hok c_3
      refine lv_iconst (v := 0) hx hb dX11_isFireball_37 (by decide) ?_
      exact ret _ _ _ dX11_isFireball_38 (by unfold zb; decide) hf
    · have hf := hf.trans (if_neg c_3)
      have hok := oif_neg hok c_3
      refine lv_aload_n hx hb dX11_isFireball_23 rfl (lv_at hl 0 rfl) ?_
      refine mg_lowest C hM dX11_isFireball_24 ?_
      refine lv_iload_n hx hb dX11_isFireball_27 rfl (lv_at hl 1 rfl) ?_
      have ok_4 := And.left hok
      have hok := And.right hok
      refine ma_lowest C hM ok_4 dX11_isFireball_28 ?_
      refine lv_iload_n hx hb dX11_isFireball_29 rfl (lv_at hl 1 rfl) ?_
      refine lv_icmp_ne (tgt := 37) hx hb dX11_isFireball_30 (by decide) (fun c_5 => ?_) (fun c_5 => ?_)
      · have hf := hf.trans (if_neg c_5)
        refine lv_iconst (v := 0) hx hb dX11_isFireball_37 (by decide) ?_
        exact ret _ _ _ dX11_isFireball_38 (by unfold zb; decide) hf
      · have hf := hf.trans (if_pos c_5)
        refine lv_iconst (v := 1) hx hb dX11_isFireball_33 (by decide) ?_
        refine lv_goto (tgt := 38) hx hb dX11_isFireball_34 (by decide) ?_
        exact ret _ _ _ dX11_isFireball_38 (by unfold zb; decide) hf
def f_X11_fireballs_l33_65 (p1 : Int32) (μ_33 : MS) (w2_33 : Int32) (w3_33 : Int32) (v3_65 : Int32) (t0_65 : Int32) (t1_65 : Int32) : Bool × (Int32 × Int32) := (true, ((t1_65 + t0_65), (v3_65 + 1)))
def b_X11_fireballs_33 (p1 : Int32) (μ_33 : MS) (w2_33 : Int32) (w3_33 : Int32) : Bool × (Int32 × Int32) := (if (mi μ_33 13 0) ≤ w3_33 then (false, (w2_33, w3_33)) else (if (f_X11_isFireball μ_33 w3_33) = 0 then (f_X11_fireballs_l33_65 p1 μ_33 w2_33 w3_33 w3_33 0 w2_33) else (if (mi μ_33 15 (ix w3_33)) = p1 then (f_X11_fireballs_l33_65 p1 μ_33 w2_33 w3_33 w3_33 1 w2_33) else (f_X11_fireballs_l33_65 p1 μ_33 w2_33 w3_33 w3_33 0 w2_33))))
def ob_X11_fireballs_33 (p1 : Int32) (μ_33 : MS) (w2_33 : Int32) (w3_33 : Int32) : Prop := (oif ((mi μ_33 13 0) ≤ w3_33) True (of_X11_isFireball μ_33 w3_33 ∧ (oif ((f_X11_isFireball μ_33 w3_33) = 0) True (vp_in w3_33 60 ∧ True))))
def s_X11_fireballs_33 (p1 : Int32) (μ_33 : MS) (v : Int32 × Int32) : Bool × (Int32 × Int32) := b_X11_fireballs_33 p1 μ_33 v.1 v.2
def os_X11_fireballs_33 (p1 : Int32) (μ_33 : MS) (v : Int32 × Int32) : Prop := ob_X11_fireballs_33 p1 μ_33 v.1 v.2
def f_X11_fireballs_73 (μ : MS) (p1 : Int32) (v2_73 : Int32) (μ_73 : MS) : Int32 × MS := (v2_73, μ_73)
def f_X11_fireballs_33 (μ : MS) (p1 : Int32) (v2_33 : Int32) (v3_33 : Int32) (μ_33 : MS) : Int32 × MS := (f_X11_fireballs_73 μ p1 ((itr (s_X11_fireballs_33 p1 μ_33) FU (v2_33, v3_33)).1) μ_33)
def of_X11_fireballs_33 (μ : MS) (p1 : Int32) (v2_33 : Int32) (v3_33 : Int32) (μ_33 : MS) : Prop := (ito (s_X11_fireballs_33 p1 μ_33) (os_X11_fireballs_33 p1 μ_33) FU (v2_33, v3_33) ∧ True)
def f_X11_fireballs_29 (μ : MS) (p1 : Int32) (μ_29 : MS) : Int32 × MS := (f_X11_fireballs_33 μ p1 0 0 μ_29)
def of_X11_fireballs_29 (μ : MS) (p1 : Int32) (μ_29 : MS) : Prop := (of_X11_fireballs_33 μ p1 0 0 μ_29)
def f_X11_fireballs_13 (μ : MS) (p1 : Int32) (t0_13 : Int32) : Int32 × MS := (if t0_13 ≤ 0 then (f_X11_fireballs_29 μ p1 (f_X11_spreads (mI μ 0 0 t0_13))) else (0, (mI μ 0 0 t0_13)))
def of_X11_fireballs_13 (μ : MS) (p1 : Int32) (t0_13 : Int32) : Prop := (oif (t0_13 ≤ 0) (of_X11_spreads (mI μ 0 0 t0_13) ∧ (of_X11_fireballs_29 μ p1 (f_X11_spreads (mI μ 0 0 t0_13)))) True)
def f_X11_fireballs (μ : MS) (p1 : Int32) : Int32 × MS := (if (f_X11_isNight p1) = 0 then (f_X11_fireballs_13 μ p1 1) else (f_X11_fireballs_13 μ p1 0))
def of_X11_fireballs (μ : MS) (p1 : Int32) : Prop := (of_X11_isNight p1 ∧ (oif ((f_X11_isNight p1) = 0) (of_X11_fireballs_13 μ p1 1) (of_X11_fireballs_13 μ p1 0)))
set_option maxHeartbeats 4000000 in
set_option maxRecDepth 100000 in
theorem k_X11_fireballs (l : Launch) (D : va_G) (a : Nat → ClassId) (mo : Nat) (μ : MS) (p1 : Int32) (hok : of_X11_fireballs μ p1) : KM l D a mo yX11_fireballs cX11_fireballs 4 ((some .int)) 5 129 [.int p1] μ (some (.int (f_X11_fireballs μ p1).1)) (f_X11_fireballs μ p1).2 := by
  refine goMi (by decide +kernel) (Nat.le_of_ble_eq_true rfl) ?_
  intro p e s m args below meth c ls R Q hRf hRl C hl hB
  obtain ⟨hM, ret⟩ := hB
  have hl : lv_has ls 4 [(0, .ref mo), (1, .int p1)] := hl
  have hx := C.1.1
  have hb := C.1.2.1
  have hts := C.1.2.2.2.2
  have hown := C.1.2.2.2.1
  have hf : (f_X11_fireballs μ p1) = (f_X11_fireballs μ p1) := rfl
  have J_73 : ∀ (v2_73 : Int32) (μ_73 : MS), (f_X11_fireballs μ p1) = f_X11_fireballs_73 μ p1 v2_73 μ_73 → ∀ (H : Heap) (locs : List Loc) (ls : Array Slot), HM D a mo μ_73 s.heap H locs → lv_has ls 4 [(2, .int v2_73)] → W p l e R s m args below meth c H locs 0 0 Q (F0 m 73 ls []) := by
    intro v2_73 μ_73 hf H locs ls hM hl
    refine lv_iload_n hx hb dX11_fireballs_73 rfl (lv_at hl 0 rfl) ?_
    exact ret _ _ _ _ _ _ hM dX11_fireballs_74 hf
  have J_33 : ∀ (v2_33 : Int32) (v3_33 : Int32) (μ_33 : MS), (f_X11_fireballs μ p1) = f_X11_fireballs_33 μ p1 v2_33 v3_33 μ_33 → of_X11_fireballs_33 μ p1 v2_33 v3_33 μ_33 → ∀ (H : Heap) (locs : List Loc) (ls : Array Slot), HM D a mo μ_33 s.heap H locs → lv_has ls 4 [(0, .ref mo), (1, .int p1), (2, .int v2_33), (3, .int v3_33)] → W p l e R s m args below meth c H locs 0 0 Q (F0 m 33 ls []) := by
    intro v2_33 v3_33 μ_33 hf hok H locs ls hM hl
    refine itr_W (f := (s_X11_fireballs_33 p1 μ_33)) (o := (os_X11_fireballs_33 p1 μ_33)) (fun (v : Int32 × Int32) => ∀ (ls : Array Slot), lv_has ls 4 [(0, .ref mo), (1, .int p1), (2, .int v.1), (3, .int v.2)] → W p l e R s m args below meth c H locs 0 0 Q (F0 m 33 ls [])) (fun (v : Int32 × Int32) => ∀ (ls : Array Slot), lv_has ls 4 [(2, .int v.1)] → W p l e R s m args below meth c H locs 0 0 Q (F0 m 73 ls [])) ?_ FU (v2_33, v3_33) (And.left hok) ?_ ls (lv_sub hl [0, 1, 2, 3] rfl)
    · intro v hov kc ke
      obtain ⟨w2_33, w3_33⟩ := v
      have hok : ob_X11_fireballs_33 p1 μ_33 w2_33 w3_33 := hov
      change ∀ v', (b_X11_fireballs_33 p1 μ_33 w2_33 w3_33) = (true, v') → _ at kc
      change ∀ v', (b_X11_fireballs_33 p1 μ_33 w2_33 w3_33) = (false, v') → _ at ke
      have hf : (b_X11_fireballs_33 p1 μ_33 w2_33 w3_33) = (b_X11_fireballs_33 p1 μ_33 w2_33 w3_33) := rfl
      intro ls hl
      have J_l33_65 : ∀ (v3_65 : Int32) (t0_65 : Int32) (t1_65 : Int32), (b_X11_fireballs_33 p1 μ_33 w2_33 w3_33) = f_X11_fireballs_l33_65 p1 μ_33 w2_33 w3_33 v3_65 t0_65 t1_65 → ∀ (ls : Array Slot), lv_has ls 4 [(0, .ref mo), (1, .int p1), (3, .int v3_65)] → W p l e R s m args below meth c H locs 0 0 Q (F0 m 65 ls [.int t0_65, .int t1_65]) := by
        intro v3_65 t0_65 t1_65 hf ls hl
        refine lv_iadd hx hb dX11_fireballs_65 ?_
        refine lv_istore_n (lv' := [(2, .int (t1_65 + t0_65)), (0, .ref mo), (1, .int p1), (3, .int v3_65)]) hx hb dX11_fireballs_66 rfl hl (by decide) rfl (fun ls hl => ?_)
        refine lv_iinc (v := (v3_65 + 1)) (lv' := [(3, .int (v3_65 + 1)), (2, .int (t1_65 + t0_65)), (0, .ref mo), (1, .int p1)]) hx hb dX11_fireballs_67 hl (k := 3) rfl rfl (by decide) rfl (fun ls hl => ?_)
        refine lv_goto (tgt := 33) hx hb dX11_fireballs_70 (by decide) ?_
        exact kc ((t1_65 + t0_65), (v3_65 + 1)) hf ls (lv_sub hl [2, 3, 1, 0] rfl)
      refine lv_iload_n hx hb dX11_fireballs_33 rfl (lv_at hl 3 rfl) ?_
      refine lv_aload_n hx hb dX11_fireballs_34 rfl (lv_at hl 0 rfl) ?_
      refine mg_sightings C hM dX11_fireballs_35 ?_
      refine lv_icmp_ge (tgt := 73) hx hb dX11_fireballs_38 (by decide) (fun c_5 => ?_) (fun c_5 => ?_)
      · have hf := hf.trans (if_pos c_5)
        have hok := oif_pos hok c_5
        exact ke (w2_33, w3_33) hf ls (lv_sub hl [2] rfl)
      · have hf := hf.trans (if_neg c_5)
        have hok := oif_neg hok c_5
        refine lv_iload_n hx hb dX11_fireballs_41 rfl (lv_at hl 2 rfl) ?_
        refine lv_aload_n hx hb dX11_fireballs_42 rfl (lv_at hl 0 rfl) ?_
        refine lv_iload_n hx hb dX11_fireballs_43 rfl (lv_at hl 3 rfl) ?_
        have ok_6 := And.left hok
        have hok := And.right hok
        refine cc_R (av := [.int w3_33]) C hM (k_X11_isFireball l D a mo μ_33 w3_33 ok_6) cw_X11_236 (okR_of hRf hRl (Nat.le_of_ble_eq_true rfl) (Nat.le_of_ble_eq_true rfl)) rfl rfl hl.1 (Nat.le_of_ble_eq_true rfl) (Nat.zero_le _) (Nat.zero_le _) dX11_fireballs_44 ?_
        refine lv_if_eq (tgt := 64) hx hb dX11_fireballs_47 (by decide) (fun c_7 => ?_) (fun c_7 => ?_)
        · have hf := hf.trans (if_pos c_7)
          have hok := oif_pos hok c_7
          refine lv_iconst (v := 0) hx hb dX11_fireballs_64 (by decide) ?_
          exact J_l33_65 w3_33 0 w2_33 hf ls (lv_sub hl [0, 1, 3] rfl)
        · have hf := hf.trans (if_neg c_7)
          have hok := oif_neg hok c_7
          refine lv_aload_n hx hb dX11_fireballs_50 rfl (lv_at hl 0 rfl) ?_
          refine mg_nights C hM dX11_fireballs_51 ?_
          refine lv_iload_n hx hb dX11_fireballs_54 rfl (lv_at hl 3 rfl) ?_
          have ok_8 := And.left hok
          have hok := And.right hok
          refine ma_nights C hM ok_8 dX11_fireballs_55 ?_
          refine lv_iload_n hx hb dX11_fireballs_56 rfl (lv_at hl 1 rfl) ?_
          refine lv_icmp_ne (tgt := 64) hx hb dX11_fireballs_57 (by decide) (fun c_9 => ?_) (fun c_9 => ?_)
          · have hf := hf.trans (if_neg c_9)
            refine lv_iconst (v := 0) hx hb dX11_fireballs_64 (by decide) ?_
            exact J_l33_65 w3_33 0 w2_33 hf ls (lv_sub hl [0, 1, 3] rfl)
          · have hf := hf.trans (if_pos c_9)
            refine lv_iconst (v := 1) hx hb dX11_fireballs_60 (by decide) ?_
            refine lv_goto (tgt := 65) hx hb dX11_fireballs_61 (by decide) ?_
            exact J_l33_65 w3_33 1 w2_33 hf ls (lv_sub hl [0, 1, 3] rfl)
    · have hok := And.right hok
      intro ls hl
      exact J_73 ((itr (s_X11_fireballs_33 p1 μ_33) FU (v2_33, v3_33)).1) μ_33 hf _ _ ls hM (lv_sub hl [0] rfl)
  have J_29 : ∀ (μ_29 : MS), (f_X11_fireballs μ p1) = f_X11_fireballs_29 μ p1 μ_29 → of_X11_fireballs_29 μ p1 μ_29 → ∀ (H : Heap) (locs : List Loc) (ls : Array Slot), HM D a mo μ_29 s.heap H locs → lv_has ls 4 [(0, .ref mo), (1, .int p1)] → W p l e R s m args below meth c H locs 0 0 Q (F0 m 29 ls []) := by
    intro μ_29 hf hok H locs ls hM hl
    refine lv_iconst (v := 0) hx hb dX11_fireballs_29 (by decide) ?_
    refine lv_istore_n (lv' := [(2, .int 0), (0, .ref mo), (1, .int p1)]) hx hb dX11_fireballs_30 rfl hl (by decide) rfl (fun ls hl => ?_)
    refine lv_iconst (v := 0) hx hb dX11_fireballs_31 (by decide) ?_
    refine lv_istore_n (lv' := [(3, .int 0), (2, .int 0), (0, .ref mo), (1, .int p1)]) hx hb dX11_fireballs_32 rfl hl (by decide) rfl (fun ls hl => ?_)
    exact J_33 0 0 μ_29 hf hok _ _ ls hM (lv_sub hl [2, 3, 1, 0] rfl)
  have J_13 : ∀ (t0_13 : Int32), (f_X11_fireballs μ p1) = f_X11_fireballs_13 μ p1 t0_13 → of_X11_fireballs_13 μ p1 t0_13 → ∀ (ls : Array Slot), lv_has ls 4 [(0, .ref mo), (1, .int p1)] → W p l e R s m args below meth c s.heap [] 0 0 Q (F0 m 13 ls [.int t0_13, .ref mo]) := by
    intro t0_13 hf hok ls hl
    refine mp_thrown C hM dX11_fireballs_13 (fun H locs hM => ?_)
    refine lv_aload_n hx hb dX11_fireballs_16 rfl (lv_at hl 0 rfl) ?_
    refine mg_thrown C hM dX11_fireballs_17 ?_
    refine lv_if_le (tgt := 25) hx hb dX11_fireballs_20 (by decide) (fun c_3 => ?_) (fun c_3 => ?_)
    · have hf := hf.trans (if_pos c_3)
      have hok := oif_pos hok c_3
      refine lv_aload_n hx hb dX11_fireballs_25 rfl (lv_at hl 0 rfl) ?_
      have ok_4 := And.left hok
      have hok := And.right hok
      refine cc_M (av := []) C hM (k_X11_spreads l D a mo (mI μ 0 0 t0_13) ok_4) cw_X11_229 (okR_of hRf hRl (Nat.le_of_ble_eq_true rfl) (Nat.le_of_ble_eq_true rfl)) rfl rfl hl.1 (Nat.le_of_ble_eq_true rfl) (Nat.zero_le _) (Nat.zero_le _) dX11_fireballs_26 (fun H locs hM => ?_)
      exact J_29 (f_X11_spreads (mI μ 0 0 t0_13)) hf hok _ _ ls hM (lv_sub hl [0, 1] rfl)
    · have hf := hf.trans (if_neg c_3)
      have hok := oif_neg hok c_3
      refine lv_iconst (v := 0) hx hb dX11_fireballs_23 (by decide) ?_
      exact ret _ _ _ _ _ _ hM dX11_fireballs_24 hf
  refine lv_aload_n hx hb dX11_fireballs_0 rfl (lv_at hl 0 rfl) ?_
  refine lv_iload_n hx hb dX11_fireballs_1 rfl (lv_at hl 1 rfl) ?_
  have ok_1 := And.left hok
  have hok := And.right hok
  refine cc_S (av := [.int p1]) C (k_X11_isNight l D a p1 ok_1) cw_X11_179 (okR_of hRf hRl (Nat.le_of_ble_eq_true rfl) (Nat.le_of_ble_eq_true rfl)) rfl rfl hl.1 (Nat.le_of_ble_eq_true rfl) (Nat.zero_le _) (Nat.zero_le _) dX11_fireballs_2 ?_
  refine lv_if_eq (tgt := 12) hx hb dX11_fireballs_5 (by decide) (fun c_2 => ?_) (fun c_2 => ?_)
  · have hf := hf.trans (if_pos c_2)
    have hok := oif_pos hok c_2
    refine lv_iconst (v := 1) hx hb dX11_fireballs_12 (by decide) ?_
    exact J_13 1 hf hok ls (lv_sub hl [0, 1] rfl)
  · have hf := hf.trans (if_neg c_2)
    have hok := oif_neg hok c_2
    refine lv_iconst (v := 0) hx hb dX11_fireballs_8 (by decide) ?_
    refine lv_goto (tgt := 13) hx hb dX11_fireballs_9 (by decide) ?_
    exact J_13 0 hf hok ls (lv_sub hl [0, 1] rfl)
def f_X11_measures_l43_266 (p1 : Int32) (w2_43 : Int64) (w4_43 : Int64) (w6_43 : Int32) (μw_43 : MS) (v2_266 : Int64) (v4_266 : Int64) (v6_266 : Int32) (μ_266 : MS) : Bool × (Int64 × Int64 × Int32 × MS) := (true, (v2_266, v4_266, (v6_266 + 1), μ_266))
def f_X11_measures_l157_260 (p1 : Int32) (v4_157 : Int64) (v6_157 : Int32) (w2_157 : Int64) (w7_157 : Int32) (μw_157 : MS) (v2_260 : Int64) (v7_260 : Int32) (μ_260 : MS) : Bool × (Int64 × Int32 × MS) := (true, (v2_260, (v7_260 + 1), μ_260))
def f_X11_measures_l157_233 (p1 : Int32) (v4_157 : Int64) (v6_157 : Int32) (w2_157 : Int64) (w7_157 : Int32) (μw_157 : MS) (v2_233 : Int64) (v7_233 : Int32) (t0_233 : Int32) (μ_233 : MS) : Bool × (Int64 × Int32 × MS) := (f_X11_measures_l157_260 p1 v4_157 v6_157 w2_157 w7_157 μw_157 v2_233 v7_233 (mL (mL μ_233 29 0 ((ml μ_233 29 0) + (ml μ_233 25 0))) 30 0 ((ml μ_233 30 0) + (ml μ_233 26 0))))
def f_X11_measures_l157_198 (p1 : Int32) (v4_157 : Int64) (v6_157 : Int32) (w2_157 : Int64) (w7_157 : Int32) (μw_157 : MS) (v2_198 : Int64) (v7_198 : Int32) (t0_198 : Int32) (μ_198 : MS) : Bool × (Int64 × Int32 × MS) := (f_X11_measures_l157_233 p1 v4_157 v6_157 w2_157 w7_157 μw_157 v2_198 v7_198 ((f_X11_endsCross (mL (mL μ_198 27 0 ((ml μ_198 27 0) + (ml μ_198 25 0))) 28 0 ((ml μ_198 28 0) + (ml μ_198 26 0))) v6_157 v7_198).1) ((f_X11_endsCross (mL (mL μ_198 27 0 ((ml μ_198 27 0) + (ml μ_198 25 0))) 28 0 ((ml μ_198 28 0) + (ml μ_198 26 0))) v6_157 v7_198).2))
def of_X11_measures_l157_198 (p1 : Int32) (v4_157 : Int64) (v6_157 : Int32) (w2_157 : Int64) (w7_157 : Int32) (μw_157 : MS) (v2_198 : Int64) (v7_198 : Int32) (t0_198 : Int32) (μ_198 : MS) : Prop := (of_X11_endsCross (mL (mL μ_198 27 0 ((ml μ_198 27 0) + (ml μ_198 25 0))) 28 0 ((ml μ_198 28 0) + (ml μ_198 26 0))) v6_157 v7_198 ∧ True)
def f_X11_measures_l157_183 (p1 : Int32) (v4_157 : Int64) (v6_157 : Int32) (w2_157 : Int64) (w7_157 : Int32) (μw_157 : MS) (v2_183 : Int64) (v7_183 : Int32) (t0_183 : Int32) (μ_183 : MS) : Bool × (Int64 × Int32 × MS) := (if t0_183 = 0 then (f_X11_measures_l157_260 p1 v4_157 v6_157 w2_157 w7_157 μw_157 v2_183 v7_183 μ_183) else (f_X11_measures_l157_198 p1 v4_157 v6_157 w2_157 w7_157 μw_157 (v2_183 + 1) v7_183 ((f_X11_beginsCross μ_183 v6_157 v7_183).1) ((f_X11_beginsCross μ_183 v6_157 v7_183).2)))
def of_X11_measures_l157_183 (p1 : Int32) (v4_157 : Int64) (v6_157 : Int32) (w2_157 : Int64) (w7_157 : Int32) (μw_157 : MS) (v2_183 : Int64) (v7_183 : Int32) (t0_183 : Int32) (μ_183 : MS) : Prop := (oif (t0_183 = 0) True (of_X11_beginsCross μ_183 v6_157 v7_183 ∧ (of_X11_measures_l157_198 p1 v4_157 v6_157 w2_157 w7_157 μw_157 (v2_183 + 1) v7_183 ((f_X11_beginsCross μ_183 v6_157 v7_183).1) ((f_X11_beginsCross μ_183 v6_157 v7_183).2))))
def b_X11_measures_157 (p1 : Int32) (v4_157 : Int64) (v6_157 : Int32) (w2_157 : Int64) (w7_157 : Int32) (μw_157 : MS) : Bool × (Int64 × Int32 × MS) := (if v6_157 ≤ w7_157 then (false, (w2_157, w7_157, μw_157)) else (if (mi μw_157 23 (ix w7_157)) = p1 then (f_X11_measures_l157_183 p1 v4_157 v6_157 w2_157 w7_157 μw_157 w2_157 w7_157 ((f_X11_join μw_157 v6_157 w7_157).1) ((f_X11_join μw_157 v6_157 w7_157).2)) else (f_X11_measures_l157_260 p1 v4_157 v6_157 w2_157 w7_157 μw_157 w2_157 w7_157 μw_157)))
def ob_X11_measures_157 (p1 : Int32) (v4_157 : Int64) (v6_157 : Int32) (w2_157 : Int64) (w7_157 : Int32) (μw_157 : MS) : Prop := (oif (v6_157 ≤ w7_157) True (vp_in w7_157 60 ∧ (oif ((mi μw_157 23 (ix w7_157)) = p1) (of_X11_join μw_157 v6_157 w7_157 ∧ (of_X11_measures_l157_183 p1 v4_157 v6_157 w2_157 w7_157 μw_157 w2_157 w7_157 ((f_X11_join μw_157 v6_157 w7_157).1) ((f_X11_join μw_157 v6_157 w7_157).2))) True)))
def s_X11_measures_157 (p1 : Int32) (v4_157 : Int64) (v6_157 : Int32) (v : Int64 × Int32 × MS) : Bool × (Int64 × Int32 × MS) := b_X11_measures_157 p1 v4_157 v6_157 v.1 v.2.1 v.2.2
def os_X11_measures_157 (p1 : Int32) (v4_157 : Int64) (v6_157 : Int32) (v : Int64 × Int32 × MS) : Prop := ob_X11_measures_157 p1 v4_157 v6_157 v.1 v.2.1 v.2.2
def f_X11_measures_l43_157 (p1 : Int32) (w2_43 : Int64) (w4_43 : Int64) (w6_43 : Int32) (μw_43 : MS) (v2_157 : Int64) (v4_157 : Int64) (v6_157 : Int32) (v7_157 : Int32) (μ_157 : MS) : Bool × (Int64 × Int64 × Int32 × MS) := (f_X11_measures_l43_266 p1 w2_43 w4_43 w6_43 μw_43 ((itr (s_X11_measures_157 p1 v4_157 v6_157) FU (v2_157, v7_157, μ_157)).1) v4_157 v6_157 ((itr (s_X11_measures_157 p1 v4_157 v6_157) FU (v2_157, v7_157, μ_157)).2.2))
def of_X11_measures_l43_157 (p1 : Int32) (w2_43 : Int64) (w4_43 : Int64) (w6_43 : Int32) (μw_43 : MS) (v2_157 : Int64) (v4_157 : Int64) (v6_157 : Int32) (v7_157 : Int32) (μ_157 : MS) : Prop := (ito (s_X11_measures_157 p1 v4_157 v6_157) (os_X11_measures_157 p1 v4_157 v6_157) FU (v2_157, v7_157, μ_157) ∧ True)
def f_X11_measures_l43_151 (p1 : Int32) (w2_43 : Int64) (w4_43 : Int64) (w6_43 : Int32) (μw_43 : MS) (v2_151 : Int64) (v4_151 : Int64) (v6_151 : Int32) (t0_151 : Int32) (μ_151 : MS) : Bool × (Int64 × Int64 × Int32 × MS) := (f_X11_measures_l43_157 p1 w2_43 w4_43 w6_43 μw_43 v2_151 v4_151 v6_151 p1 (mI μ_151 34 0 t0_151))
def of_X11_measures_l43_151 (p1 : Int32) (w2_43 : Int64) (w4_43 : Int64) (w6_43 : Int32) (μw_43 : MS) (v2_151 : Int64) (v4_151 : Int64) (v6_151 : Int32) (t0_151 : Int32) (μ_151 : MS) : Prop := (of_X11_measures_l43_157 p1 w2_43 w4_43 w6_43 μw_43 v2_151 v4_151 v6_151 p1 (mI μ_151 34 0 t0_151))
def f_X11_measures_l43_122 (p1 : Int32) (w2_43 : Int64) (w4_43 : Int64) (w6_43 : Int32) (μw_43 : MS) (v2_122 : Int64) (v4_122 : Int64) (v6_122 : Int32) (μ_122 : MS) : Bool × (Int64 × Int64 × Int32 × MS) := (if (mi μ_122 18 (ix v6_122)) ≤ (mi μ_122 34 0) then (f_X11_measures_l43_151 p1 w2_43 w4_43 w6_43 μw_43 v2_122 v4_122 v6_122 (mi μ_122 34 0) μ_122) else (f_X11_measures_l43_151 p1 w2_43 w4_43 w6_43 μw_43 v2_122 v4_122 v6_122 (mi μ_122 18 (ix v6_122)) μ_122))
def of_X11_measures_l43_122 (p1 : Int32) (w2_43 : Int64) (w4_43 : Int64) (w6_43 : Int32) (μw_43 : MS) (v2_122 : Int64) (v4_122 : Int64) (v6_122 : Int32) (μ_122 : MS) : Prop := (vp_in v6_122 60 ∧ (oif ((mi μ_122 18 (ix v6_122)) ≤ (mi μ_122 34 0)) (of_X11_measures_l43_151 p1 w2_43 w4_43 w6_43 μw_43 v2_122 v4_122 v6_122 (mi μ_122 34 0) μ_122) (vp_in v6_122 60 ∧ (of_X11_measures_l43_151 p1 w2_43 w4_43 w6_43 μw_43 v2_122 v4_122 v6_122 (mi μ_122 18 (ix v6_122)) μ_122))))
def b_X11_measures_43 (p1 : Int32) (w2_43 : Int64) (w4_43 : Int64) (w6_43 : Int32) (μw_43 : MS) : Bool × (Int64 × Int64 × Int32 × MS) := (if (mi μw_43 13 0) ≤ w6_43 then (false, (w2_43, w4_43, w6_43, μw_43)) else (if (mi μw_43 24 (ix w6_43)) = 0 then (f_X11_measures_l43_266 p1 w2_43 w4_43 w6_43 μw_43 w2_43 w4_43 w6_43 μw_43) else (if (mi μw_43 23 (ix w6_43)) = p1 then (f_X11_measures_l43_122 p1 w2_43 w4_43 w6_43 μw_43 w2_43 (w4_43 + ((mi μw_43 17 (ix w6_43)).toInt64)) w6_43 (mL (mI μw_43 32 0 ((mi μw_43 32 0) + 1)) 33 0 ((ml μw_43 33 0) + (((mi μw_43 18 (ix w6_43)).toInt64) * ((mi μw_43 17 (ix w6_43)).toInt64))))) else (f_X11_measures_l43_266 p1 w2_43 w4_43 w6_43 μw_43 w2_43 w4_43 w6_43 μw_43))))
def ob_X11_measures_43 (p1 : Int32) (w2_43 : Int64) (w4_43 : Int64) (w6_43 : Int32) (μw_43 : MS) : Prop := (oif ((mi μw_43 13 0) ≤ w6_43) True (vp_in w6_43 60 ∧ (oif ((mi μw_43 24 (ix w6_43)) = 0) True (vp_in w6_43 60 ∧ (oif ((mi μw_43 23 (ix w6_43)) = p1) (vp_in w6_43 60 ∧ (vp_in w6_43 60 ∧ (vp_in w6_43 60 ∧ (of_X11_measures_l43_122 p1 w2_43 w4_43 w6_43 μw_43 w2_43 (w4_43 + ((mi μw_43 17 (ix w6_43)).toInt64)) w6_43 (mL (mI μw_43 32 0 ((mi μw_43 32 0) + 1)) 33 0 ((ml μw_43 33 0) + (((mi μw_43 18 (ix w6_43)).toInt64) * ((mi μw_43 17 (ix w6_43)).toInt64)))))))) True)))))
def s_X11_measures_43 (p1 : Int32) (v : Int64 × Int64 × Int32 × MS) : Bool × (Int64 × Int64 × Int32 × MS) := b_X11_measures_43 p1 v.1 v.2.1 v.2.2.1 v.2.2.2
def os_X11_measures_43 (p1 : Int32) (v : Int64 × Int64 × Int32 × MS) : Prop := ob_X11_measures_43 p1 v.1 v.2.1 v.2.2.1 v.2.2.2
def f_X11_measures_342 (μ : MS) (p1 : Int32) (v4_342 : Int64) (v6_342 : Int64) (v8_342 : Int64) (μ_342 : MS) : MS := (mL (mL μ_342 31 0 (((10 * (f_X11_root ((v6_342 * v6_342) + (v8_342 * v8_342)))) * ((mi μ_342 32 0).toInt64)) / v4_342)) 33 0 ((ml μ_342 33 0) / ((mi μ_342 32 0).toInt64)))
def of_X11_measures_342 (μ : MS) (p1 : Int32) (v4_342 : Int64) (v6_342 : Int64) (v8_342 : Int64) (μ_342 : MS) : Prop := (of_X11_root ((v6_342 * v6_342) + (v8_342 * v8_342)) ∧ (¬ v4_342 = 0 ∧ (¬ ((mi μ_342 32 0).toInt64) = 0 ∧ True)))
def f_X11_measures_308 (μ : MS) (p1 : Int32) (v2_308 : Int64) (v4_308 : Int64) (μ_308 : MS) : MS := (f_X11_measures_342 μ p1 v4_308 ((ml μ_308 29 0) - (ml μ_308 27 0)) ((f_X11_down (ml μ_308 30 0) v2_308) - (ml μ_308 28 0)) (mL μ_308 30 0 (f_X11_down (ml μ_308 30 0) v2_308)))
def of_X11_measures_308 (μ : MS) (p1 : Int32) (v2_308 : Int64) (v4_308 : Int64) (μ_308 : MS) : Prop := (of_X11_down (ml μ_308 30 0) v2_308 ∧ (of_X11_measures_342 μ p1 v4_308 ((ml μ_308 29 0) - (ml μ_308 27 0)) ((f_X11_down (ml μ_308 30 0) v2_308) - (ml μ_308 28 0)) (mL μ_308 30 0 (f_X11_down (ml μ_308 30 0) v2_308))))
def f_X11_measures_272 (μ : MS) (p1 : Int32) (v2_272 : Int64) (v4_272 : Int64) (μ_272 : MS) : MS := (f_X11_measures_308 μ p1 v2_272 v4_272 (mL (mL (mL μ_272 27 0 (f_X11_down (ml μ_272 27 0) v2_272)) 28 0 (f_X11_down (ml μ_272 28 0) v2_272)) 29 0 (f_X11_down (ml μ_272 29 0) v2_272)))
def of_X11_measures_272 (μ : MS) (p1 : Int32) (v2_272 : Int64) (v4_272 : Int64) (μ_272 : MS) : Prop := (of_X11_down (ml μ_272 27 0) v2_272 ∧ (of_X11_down (ml μ_272 28 0) v2_272 ∧ (of_X11_down (ml μ_272 29 0) v2_272 ∧ (of_X11_measures_308 μ p1 v2_272 v4_272 (mL (mL (mL μ_272 27 0 (f_X11_down (ml μ_272 27 0) v2_272)) 28 0 (f_X11_down (ml μ_272 28 0) v2_272)) 29 0 (f_X11_down (ml μ_272 29 0) v2_272))))))
def f_X11_measures_43 (μ : MS) (p1 : Int32) (v2_43 : Int64) (v4_43 : Int64) (v6_43 : Int32) (μ_43 : MS) : MS := (f_X11_measures_272 μ p1 ((itr (s_X11_measures_43 p1) FU (v2_43, v4_43, v6_43, μ_43)).1) ((itr (s_X11_measures_43 p1) FU (v2_43, v4_43, v6_43, μ_43)).2.1) ((itr (s_X11_measures_43 p1) FU (v2_43, v4_43, v6_43, μ_43)).2.2.2))
def of_X11_measures_43 (μ : MS) (p1 : Int32) (v2_43 : Int64) (v4_43 : Int64) (v6_43 : Int32) (μ_43 : MS) : Prop := (ito (s_X11_measures_43 p1) (os_X11_measures_43 p1) FU (v2_43, v4_43, v6_43, μ_43) ∧ (of_X11_measures_272 μ p1 ((itr (s_X11_measures_43 p1) FU (v2_43, v4_43, v6_43, μ_43)).1) ((itr (s_X11_measures_43 p1) FU (v2_43, v4_43, v6_43, μ_43)).2.1) ((itr (s_X11_measures_43 p1) FU (v2_43, v4_43, v6_43, μ_43)).2.2.2)))
def f_X11_measures (μ : MS) (p1 : Int32) : MS := (f_X11_measures_43 μ p1 0 0 p1 (mI (mL (mI (mL (mL (mL (mL μ 27 0 0) 28 0 0) 29 0 0) 30 0 0) 32 0 0) 33 0 0) 34 0 0))
def of_X11_measures (μ : MS) (p1 : Int32) : Prop := (of_X11_measures_43 μ p1 0 0 p1 (mI (mL (mI (mL (mL (mL (mL μ 27 0 0) 28 0 0) 29 0 0) 30 0 0) 32 0 0) 33 0 0) 34 0 0))
set_option maxHeartbeats 4000000 in
set_option maxRecDepth 100000 in
theorem k_X11_measures (l : Launch) (D : va_G) (a : Nat → ClassId) (mo : Nat) (μ : MS) (p1 : Int32) (hok : of_X11_measures μ p1) : KM l D a mo yX11_measures cX11_measures 10 none 4 105 [.int p1] μ none (f_X11_measures μ p1) := by
  refine goMv (by decide +kernel) (Nat.le_of_ble_eq_true rfl) ?_
  intro p e s m args below meth c ls R Q hRf hRl C hl hB
  obtain ⟨hM, ret⟩ := hB
  have hl : lv_has ls 10 [(0, .ref mo), (1, .int p1)] := hl
  have hx := C.1.1
  have hb := C.1.2.1
  have hts := C.1.2.2.2.2
  have hown := C.1.2.2.2.1
  have hf : (f_X11_measures μ p1) = (f_X11_measures μ p1) := rfl
  have J_342 : ∀ (v4_342 : Int64) (v6_342 : Int64) (v8_342 : Int64) (μ_342 : MS), (f_X11_measures μ p1) = f_X11_measures_342 μ p1 v4_342 v6_342 v8_342 μ_342 → of_X11_measures_342 μ p1 v4_342 v6_342 v8_342 μ_342 → ∀ (H : Heap) (locs : List Loc) (ls : Array Slot), HM D a mo μ_342 s.heap H locs → lv_has ls 10 [(0, .ref mo), (4, .long v4_342), (6, .long v6_342), (8, .long v8_342)] → W p l e R s m args below meth c H locs 0 0 Q (F0 m 342 ls []) := by
    intro v4_342 v6_342 v8_342 μ_342 hf hok H locs ls hM hl
    refine lv_aload_n hx hb dX11_measures_342 rfl (lv_at hl 0 rfl) ?_
    refine lv_ldc2 (v := 10) hx hb hown (hts _ q_1479) dX11_measures_343 ?_
    refine lv_lload hx hb dX11_measures_346 (lv_at hl 2 rfl) ?_
    refine lv_lload hx hb dX11_measures_348 (lv_at hl 2 rfl) ?_
    refine lv_lmul hx hb dX11_measures_350 ?_
    refine lv_lload hx hb dX11_measures_351 (lv_at hl 3 rfl) ?_
    refine lv_lload hx hb dX11_measures_353 (lv_at hl 3 rfl) ?_
    refine lv_lmul hx hb dX11_measures_355 ?_
    refine lv_ladd hx hb dX11_measures_356 ?_
    have ok_23 := And.left hok
    have hok := And.right hok
    refine cc_S (av := [.long ((v6_342 * v6_342) + (v8_342 * v8_342))]) C (k_X11_root l D a ((v6_342 * v6_342) + (v8_342 * v8_342)) ok_23) cw_X11_262 (okR_of hRf hRl (Nat.le_of_ble_eq_true rfl) (Nat.le_of_ble_eq_true rfl)) rfl rfl hl.1 (Nat.le_of_ble_eq_true rfl) (Nat.zero_le _) (Nat.zero_le _) dX11_measures_357 ?_
    refine lv_lmul hx hb dX11_measures_360 ?_
    refine lv_aload_n hx hb dX11_measures_361 rfl (lv_at hl 0 rfl) ?_
    refine mg_many C hM dX11_measures_362 ?_
    refine lv_i2l (v := ((mi μ_342 32 0).toInt64)) hx hb dX11_measures_365 rfl ?_
    refine lv_lmul hx hb dX11_measures_366 ?_
    refine lv_lload hx hb dX11_measures_367 (lv_at hl 1 rfl) ?_
    have ok_24 := And.left hok
    have hok := And.right hok
    refine lv_ldiv hx hb dX11_measures_369 ok_24 ?_
    refine mp_speed C hM dX11_measures_370 (fun H locs hM => ?_)
    refine lv_aload_n hx hb dX11_measures_373 rfl (lv_at hl 0 rfl) ?_
    refine lv_dup hx hb dX11_measures_374 rfl ?_
    refine mg_byLight C hM dX11_measures_375 ?_
    refine lv_aload_n hx hb dX11_measures_378 rfl (lv_at hl 0 rfl) ?_
    refine mg_many C hM dX11_measures_379 ?_
    refine lv_i2l (v := ((mi μ_342 32 0).toInt64)) hx hb dX11_measures_382 rfl ?_
    have ok_25 := And.left hok
    have hok := And.right hok
    refine lv_ldiv hx hb dX11_measures_383 ok_25 ?_
    refine mp_byLight C hM dX11_measures_384 (fun H locs hM => ?_)
    exact ret _ _ _ _ _ hM dX11_measures_387 hf
  have J_308 : ∀ (v2_308 : Int64) (v4_308 : Int64) (μ_308 : MS), (f_X11_measures μ p1) = f_X11_measures_308 μ p1 v2_308 v4_308 μ_308 → of_X11_measures_308 μ p1 v2_308 v4_308 μ_308 → ∀ (H : Heap) (locs : List Loc) (ls : Array Slot), HM D a mo μ_308 s.heap H locs → lv_has ls 10 [(0, .ref mo), (2, .long v2_308), (4, .long v4_308)] → W p l e R s m args below meth c H locs 0 0 Q (F0 m 308 ls []) := by
    intro v2_308 v4_308 μ_308 hf hok H locs ls hM hl
    refine lv_aload_n hx hb dX11_measures_308 rfl (lv_at hl 0 rfl) ?_
    refine lv_aload_n hx hb dX11_measures_309 rfl (lv_at hl 0 rfl) ?_
    refine mg_toY C hM dX11_measures_310 ?_
    refine lv_lload_n hx hb dX11_measures_313 rfl (lv_at hl 1 rfl) ?_
    have ok_22 := And.left hok
    have hok := And.right hok
    refine cc_S (av := [.long (ml μ_308 30 0), .long v2_308]) C (k_X11_down l D a (ml μ_308 30 0) v2_308 ok_22) cw_X11_202 (okR_of hRf hRl (Nat.le_of_ble_eq_true rfl) (Nat.le_of_ble_eq_true rfl)) rfl rfl hl.1 (Nat.le_of_ble_eq_true rfl) (Nat.zero_le _) (Nat.zero_le _) dX11_measures_314 ?_
    refine mp_toY C hM dX11_measures_317 (fun H locs hM => ?_)
    refine lv_aload_n hx hb dX11_measures_320 rfl (lv_at hl 0 rfl) ?_
    refine mg_toX C hM dX11_measures_321 ?_
    refine lv_aload_n hx hb dX11_measures_324 rfl (lv_at hl 0 rfl) ?_
    refine mg_fromX C hM dX11_measures_325 ?_
    refine lv_lsub hx hb dX11_measures_328 ?_
    refine lv_lstore (lv' := [(6, .long ((ml μ_308 29 0) - (ml μ_308 27 0))), (0, .ref mo), (2, .long v2_308), (4, .long v4_308)]) hx hb dX11_measures_329 hl (by decide) rfl (fun ls hl => ?_)
    refine lv_aload_n hx hb dX11_measures_331 rfl (lv_at hl 1 rfl) ?_
    refine mg_toY C hM dX11_measures_332 ?_
    refine lv_aload_n hx hb dX11_measures_335 rfl (lv_at hl 1 rfl) ?_
    refine mg_fromY C hM dX11_measures_336 ?_
    refine lv_lsub hx hb dX11_measures_339 ?_
    refine lv_lstore (lv' := [(8, .long ((f_X11_down (ml μ_308 30 0) v2_308) - (ml μ_308 28 0))), (6, .long ((ml μ_308 29 0) - (ml μ_308 27 0))), (0, .ref mo), (2, .long v2_308), (4, .long v4_308)]) hx hb dX11_measures_340 hl (by decide) rfl (fun ls hl => ?_)
    exact J_342 v4_308 ((ml μ_308 29 0) - (ml μ_308 27 0)) ((f_X11_down (ml μ_308 30 0) v2_308) - (ml μ_308 28 0)) (mL μ_308 30 0 (f_X11_down (ml μ_308 30 0) v2_308)) hf hok _ _ ls hM (lv_sub hl [2, 4, 1, 0] rfl)
  have J_272 : ∀ (v2_272 : Int64) (v4_272 : Int64) (μ_272 : MS), (f_X11_measures μ p1) = f_X11_measures_272 μ p1 v2_272 v4_272 μ_272 → of_X11_measures_272 μ p1 v2_272 v4_272 μ_272 → ∀ (H : Heap) (locs : List Loc) (ls : Array Slot), HM D a mo μ_272 s.heap H locs → lv_has ls 10 [(0, .ref mo), (2, .long v2_272), (4, .long v4_272)] → W p l e R s m args below meth c H locs 0 0 Q (F0 m 272 ls []) := by
    intro v2_272 v4_272 μ_272 hf hok H locs ls hM hl
    refine lv_aload_n hx hb dX11_measures_272 rfl (lv_at hl 0 rfl) ?_
    refine lv_aload_n hx hb dX11_measures_273 rfl (lv_at hl 0 rfl) ?_
    refine mg_fromX C hM dX11_measures_274 ?_
    refine lv_lload_n hx hb dX11_measures_277 rfl (lv_at hl 1 rfl) ?_
    have ok_19 := And.left hok
    have hok := And.right hok
    refine cc_S (av := [.long (ml μ_272 27 0), .long v2_272]) C (k_X11_down l D a (ml μ_272 27 0) v2_272 ok_19) cw_X11_202 (okR_of hRf hRl (Nat.le_of_ble_eq_true rfl) (Nat.le_of_ble_eq_true rfl)) rfl rfl hl.1 (Nat.le_of_ble_eq_true rfl) (Nat.zero_le _) (Nat.zero_le _) dX11_measures_278 ?_
    refine mp_fromX C hM dX11_measures_281 (fun H locs hM => ?_)
    refine lv_aload_n hx hb dX11_measures_284 rfl (lv_at hl 0 rfl) ?_
    refine lv_aload_n hx hb dX11_measures_285 rfl (lv_at hl 0 rfl) ?_
    refine mg_fromY C hM dX11_measures_286 ?_
    refine lv_lload_n hx hb dX11_measures_289 rfl (lv_at hl 1 rfl) ?_
    have ok_20 := And.left hok
    have hok := And.right hok
    refine cc_S (av := [.long (ml μ_272 28 0), .long v2_272]) C (k_X11_down l D a (ml μ_272 28 0) v2_272 ok_20) cw_X11_202 (okR_of hRf hRl (Nat.le_of_ble_eq_true rfl) (Nat.le_of_ble_eq_true rfl)) rfl rfl hl.1 (Nat.le_of_ble_eq_true rfl) (Nat.zero_le _) (Nat.zero_le _) dX11_measures_290 ?_
    refine mp_fromY C hM dX11_measures_293 (fun H locs hM => ?_)
    refine lv_aload_n hx hb dX11_measures_296 rfl (lv_at hl 0 rfl) ?_
    refine lv_aload_n hx hb dX11_measures_297 rfl (lv_at hl 0 rfl) ?_
    refine mg_toX C hM dX11_measures_298 ?_
    refine lv_lload_n hx hb dX11_measures_301 rfl (lv_at hl 1 rfl) ?_
    have ok_21 := And.left hok
    have hok := And.right hok
    refine cc_S (av := [.long (ml μ_272 29 0), .long v2_272]) C (k_X11_down l D a (ml μ_272 29 0) v2_272 ok_21) cw_X11_202 (okR_of hRf hRl (Nat.le_of_ble_eq_true rfl) (Nat.le_of_ble_eq_true rfl)) rfl rfl hl.1 (Nat.le_of_ble_eq_true rfl) (Nat.zero_le _) (Nat.zero_le _) dX11_measures_302 ?_
    refine mp_toX C hM dX11_measures_305 (fun H locs hM => ?_)
    exact J_308 v2_272 v4_272 (mL (mL (mL μ_272 27 0 (f_X11_down (ml μ_272 27 0) v2_272)) 28 0 (f_X11_down (ml μ_272 28 0) v2_272)) 29 0 (f_X11_down (ml μ_272 29 0) v2_272)) hf hok _ _ ls hM (lv_sub hl [0, 1, 2] rfl)
  have J_43 : ∀ (v2_43 : Int64) (v4_43 : Int64) (v6_43 : Int32) (μ_43 : MS), (f_X11_measures μ p1) = f_X11_measures_43 μ p1 v2_43 v4_43 v6_43 μ_43 → of_X11_measures_43 μ p1 v2_43 v4_43 v6_43 μ_43 → ∀ (H : Heap) (locs : List Loc) (ls : Array Slot), HM D a mo μ_43 s.heap H locs → lv_has ls 10 [(0, .ref mo), (1, .int p1), (2, .long v2_43), (4, .long v4_43), (6, .int v6_43)] → W p l e R s m args below meth c H locs 0 0 Q (F0 m 43 ls []) := by
    intro v2_43 v4_43 v6_43 μ_43 hf hok H locs ls hM hl
    refine itr_W (f := (s_X11_measures_43 p1)) (o := (os_X11_measures_43 p1)) (fun (v : Int64 × Int64 × Int32 × MS) => ∀ (H : Heap) (locs : List Loc) (ls : Array Slot), HM D a mo v.2.2.2 s.heap H locs → lv_has ls 10 [(0, .ref mo), (1, .int p1), (2, .long v.1), (4, .long v.2.1), (6, .int v.2.2.1)] → W p l e R s m args below meth c H locs 0 0 Q (F0 m 43 ls [])) (fun (v : Int64 × Int64 × Int32 × MS) => ∀ (H : Heap) (locs : List Loc) (ls : Array Slot), HM D a mo v.2.2.2 s.heap H locs → lv_has ls 10 [(0, .ref mo), (2, .long v.1), (4, .long v.2.1)] → W p l e R s m args below meth c H locs 0 0 Q (F0 m 272 ls [])) ?_ FU (v2_43, v4_43, v6_43, μ_43) (And.left hok) ?_ _ _ ls hM (lv_sub hl [0, 1, 2, 3, 4] rfl)
    · intro v hov kc ke
      obtain ⟨w2_43, w4_43, w6_43, μw_43⟩ := v
      have hok : ob_X11_measures_43 p1 w2_43 w4_43 w6_43 μw_43 := hov
      change ∀ v', (b_X11_measures_43 p1 w2_43 w4_43 w6_43 μw_43) = (true, v') → _ at kc
      change ∀ v', (b_X11_measures_43 p1 w2_43 w4_43 w6_43 μw_43) = (false, v') → _ at ke
      have hf : (b_X11_measures_43 p1 w2_43 w4_43 w6_43 μw_43) = (b_X11_measures_43 p1 w2_43 w4_43 w6_43 μw_43) := rfl
      intro H locs ls hM hl
      have J_l43_266 : ∀ (v2_266 : Int64) (v4_266 : Int64) (v6_266 : Int32) (μ_266 : MS), (b_X11_measures_43 p1 w2_43 w4_43 w6_43 μw_43) = f_X11_measures_l43_266 p1 w2_43 w4_43 w6_43 μw_43 v2_266 v4_266 v6_266 μ_266 → ∀ (H : Heap) (locs : List Loc) (ls : Array Slot), HM D a mo μ_266 s.heap H locs → lv_has ls 10 [(0, .ref mo), (1, .int p1), (2, .long v2_266), (4, .long v4_266), (6, .int v6_266)] → W p l e R s m args below meth c H locs 0 0 Q (F0 m 266 ls []) := by
        intro v2_266 v4_266 v6_266 μ_266 hf H locs ls hM hl
        refine lv_iinc (v := (v6_266 + 1)) (lv' := [(6, .int (v6_266 + 1)), (0, .ref mo), (1, .int p1), (2, .long v2_266), (4, .long v4_266)]) hx hb dX11_measures_266 hl (k := 4) rfl rfl (by decide) rfl (fun ls hl => ?_)
        refine lv_goto (tgt := 43) hx hb dX11_measures_269 (by decide) ?_
        exact kc (v2_266, v4_266, (v6_266 + 1), μ_266) hf H locs ls hM (lv_sub hl [1, 2, 3, 4, 0] rfl)
      have J_l43_157 : ∀ (v2_157 : Int64) (v4_157 : Int64) (v6_157 : Int32) (v7_157 : Int32) (μ_157 : MS), (b_X11_measures_43 p1 w2_43 w4_43 w6_43 μw_43) = f_X11_measures_l43_157 p1 w2_43 w4_43 w6_43 μw_43 v2_157 v4_157 v6_157 v7_157 μ_157 → of_X11_measures_l43_157 p1 w2_43 w4_43 w6_43 μw_43 v2_157 v4_157 v6_157 v7_157 μ_157 → ∀ (H : Heap) (locs : List Loc) (ls : Array Slot), HM D a mo μ_157 s.heap H locs → lv_has ls 10 [(0, .ref mo), (1, .int p1), (2, .long v2_157), (4, .long v4_157), (6, .int v6_157), (7, .int v7_157)] → W p l e R s m args below meth c H locs 0 0 Q (F0 m 157 ls []) := by
        intro v2_157 v4_157 v6_157 v7_157 μ_157 hf hok H locs ls hM hl
        refine itr_W (f := (s_X11_measures_157 p1 v4_157 v6_157)) (o := (os_X11_measures_157 p1 v4_157 v6_157)) (fun (v : Int64 × Int32 × MS) => ∀ (H : Heap) (locs : List Loc) (ls : Array Slot), HM D a mo v.2.2 s.heap H locs → lv_has ls 10 [(0, .ref mo), (1, .int p1), (2, .long v.1), (4, .long v4_157), (6, .int v6_157), (7, .int v.2.1)] → W p l e R s m args below meth c H locs 0 0 Q (F0 m 157 ls [])) (fun (v : Int64 × Int32 × MS) => ∀ (H : Heap) (locs : List Loc) (ls : Array Slot), HM D a mo v.2.2 s.heap H locs → lv_has ls 10 [(0, .ref mo), (1, .int p1), (2, .long v.1), (4, .long v4_157), (6, .int v6_157)] → W p l e R s m args below meth c H locs 0 0 Q (F0 m 266 ls [])) ?_ FU (v2_157, v7_157, μ_157) (And.left hok) ?_ _ _ ls hM (lv_sub hl [0, 1, 2, 3, 4, 5] rfl)
        · intro v hov kc ke
          obtain ⟨w2_157, w7_157, μw_157⟩ := v
          have hok : ob_X11_measures_157 p1 v4_157 v6_157 w2_157 w7_157 μw_157 := hov
          change ∀ v', (b_X11_measures_157 p1 v4_157 v6_157 w2_157 w7_157 μw_157) = (true, v') → _ at kc
          change ∀ v', (b_X11_measures_157 p1 v4_157 v6_157 w2_157 w7_157 μw_157) = (false, v') → _ at ke
          have hf : (b_X11_measures_157 p1 v4_157 v6_157 w2_157 w7_157 μw_157) = (b_X11_measures_157 p1 v4_157 v6_157 w2_157 w7_157 μw_157) := rfl
          intro H locs ls hM hl
          have J_l157_260 : ∀ (v2_260 : Int64) (v7_260 : Int32) (μ_260 : MS), (b_X11_measures_157 p1 v4_157 v6_157 w2_157 w7_157 μw_157) = f_X11_measures_l157_260 p1 v4_157 v6_157 w2_157 w7_157 μw_157 v2_260 v7_260 μ_260 → ∀ (H : Heap) (locs : List Loc) (ls : Array Slot), HM D a mo μ_260 s.heap H locs → lv_has ls 10 [(0, .ref mo), (1, .int p1), (2, .long v2_260), (4, .long v4_157), (6, .int v6_157), (7, .int v7_260)] → W p l e R s m args below meth c H locs 0 0 Q (F0 m 260 ls []) := by
            intro v2_260 v7_260 μ_260 hf H locs ls hM hl
            refine lv_iinc (v := (v7_260 + 1)) (lv' := [(7, .int (v7_260 + 1)), (0, .ref mo), (1, .int p1), (2, .long v2_260), (4, .long v4_157), (6, .int v6_157)]) hx hb dX11_measures_260 hl (k := 5) rfl rfl (by decide) rfl (fun ls hl => ?_)
            refine lv_goto (tgt := 157) hx hb dX11_measures_263 (by decide) ?_
            exact kc (v2_260, (v7_260 + 1), μ_260) hf H locs ls hM (lv_sub hl [1, 2, 3, 4, 5, 0] rfl)
          have J_l157_233 : ∀ (v2_233 : Int64) (v7_233 : Int32) (t0_233 : Int32) (μ_233 : MS), (b_X11_measures_157 p1 v4_157 v6_157 w2_157 w7_157 μw_157) = f_X11_measures_l157_233 p1 v4_157 v6_157 w2_157 w7_157 μw_157 v2_233 v7_233 t0_233 μ_233 → ∀ (H : Heap) (locs : List Loc) (ls : Array Slot), HM D a mo μ_233 s.heap H locs → lv_has ls 10 [(0, .ref mo), (1, .int p1), (2, .long v2_233), (4, .long v4_157), (6, .int v6_157), (7, .int v7_233)] → W p l e R s m args below meth c H locs 0 0 Q (F0 m 233 ls [.int t0_233]) := by
            intro v2_233 v7_233 t0_233 μ_233 hf H locs ls hM hl
            refine lv_pop hx hb dX11_measures_233 rfl ?_
            refine lv_aload_n hx hb dX11_measures_234 rfl (lv_at hl 0 rfl) ?_
            refine lv_dup hx hb dX11_measures_235 rfl ?_
            refine mg_toX C hM dX11_measures_236 ?_
            refine lv_aload_n hx hb dX11_measures_239 rfl (lv_at hl 0 rfl) ?_
            refine mg_placeX C hM dX11_measures_240 ?_
            refine lv_ladd hx hb dX11_measures_243 ?_
            refine mp_toX C hM dX11_measures_244 (fun H locs hM => ?_)
            refine lv_aload_n hx hb dX11_measures_247 rfl (lv_at hl 0 rfl) ?_
            refine lv_dup hx hb dX11_measures_248 rfl ?_
            refine mg_toY C hM dX11_measures_249 ?_
            refine lv_aload_n hx hb dX11_measures_252 rfl (lv_at hl 0 rfl) ?_
            refine mg_placeY C hM dX11_measures_253 ?_
            refine lv_ladd hx hb dX11_measures_256 ?_
            refine mp_toY C hM dX11_measures_257 (fun H locs hM => ?_)
            exact J_l157_260 v2_233 v7_233 (mL (mL μ_233 29 0 ((ml μ_233 29 0) + (ml μ_233 25 0))) 30 0 ((ml μ_233 30 0) + (ml μ_233 26 0))) hf _ _ ls hM (lv_sub hl [0, 1, 2, 3, 4, 5] rfl)
          have J_l157_198 : ∀ (v2_198 : Int64) (v7_198 : Int32) (t0_198 : Int32) (μ_198 : MS), (b_X11_measures_157 p1 v4_157 v6_157 w2_157 w7_157 μw_157) = f_X11_measures_l157_198 p1 v4_157 v6_157 w2_157 w7_157 μw_157 v2_198 v7_198 t0_198 μ_198 → of_X11_measures_l157_198 p1 v4_157 v6_157 w2_157 w7_157 μw_157 v2_198 v7_198 t0_198 μ_198 → ∀ (H : Heap) (locs : List Loc) (ls : Array Slot), HM D a mo μ_198 s.heap H locs → lv_has ls 10 [(0, .ref mo), (1, .int p1), (2, .long v2_198), (4, .long v4_157), (6, .int v6_157), (7, .int v7_198)] → W p l e R s m args below meth c H locs 0 0 Q (F0 m 198 ls [.int t0_198]) := by
            intro v2_198 v7_198 t0_198 μ_198 hf hok H locs ls hM hl
            refine lv_pop hx hb dX11_measures_198 rfl ?_
            refine lv_aload_n hx hb dX11_measures_199 rfl (lv_at hl 0 rfl) ?_
            refine lv_dup hx hb dX11_measures_200 rfl ?_
            refine mg_fromX C hM dX11_measures_201 ?_
            refine lv_aload_n hx hb dX11_measures_204 rfl (lv_at hl 0 rfl) ?_
            refine mg_placeX C hM dX11_measures_205 ?_
            refine lv_ladd hx hb dX11_measures_208 ?_
            refine mp_fromX C hM dX11_measures_209 (fun H locs hM => ?_)
            refine lv_aload_n hx hb dX11_measures_212 rfl (lv_at hl 0 rfl) ?_
            refine lv_dup hx hb dX11_measures_213 rfl ?_
            refine mg_fromY C hM dX11_measures_214 ?_
            refine lv_aload_n hx hb dX11_measures_217 rfl (lv_at hl 0 rfl) ?_
            refine mg_placeY C hM dX11_measures_218 ?_
            refine lv_ladd hx hb dX11_measures_221 ?_
            refine mp_fromY C hM dX11_measures_222 (fun H locs hM => ?_)
            refine lv_aload_n hx hb dX11_measures_225 rfl (lv_at hl 0 rfl) ?_
            refine lv_iload hx hb dX11_measures_226 (lv_at hl 4 rfl) ?_
            refine lv_iload hx hb dX11_measures_228 (lv_at hl 5 rfl) ?_
            have ok_17 := And.left hok
            have hok := And.right hok
            refine cc_M (av := [.int v6_157, .int v7_198]) C hM (k_X11_endsCross l D a mo (mL (mL μ_198 27 0 ((ml μ_198 27 0) + (ml μ_198 25 0))) 28 0 ((ml μ_198 28 0) + (ml μ_198 26 0))) v6_157 v7_198 ok_17) cw_X11_223 (okR_of hRf hRl (Nat.le_of_ble_eq_true rfl) (Nat.le_of_ble_eq_true rfl)) rfl rfl hl.1 (Nat.le_of_ble_eq_true rfl) (Nat.zero_le _) (Nat.zero_le _) dX11_measures_230 (fun H locs hM => ?_)
            exact J_l157_233 v2_198 v7_198 ((f_X11_endsCross (mL (mL μ_198 27 0 ((ml μ_198 27 0) + (ml μ_198 25 0))) 28 0 ((ml μ_198 28 0) + (ml μ_198 26 0))) v6_157 v7_198).1) ((f_X11_endsCross (mL (mL μ_198 27 0 ((ml μ_198 27 0) + (ml μ_198 25 0))) 28 0 ((ml μ_198 28 0) + (ml μ_198 26 0))) v6_157 v7_198).2) hf _ _ ls hM (lv_sub hl [0, 1, 2, 3, 4, 5] rfl)
          have J_l157_183 : ∀ (v2_183 : Int64) (v7_183 : Int32) (t0_183 : Int32) (μ_183 : MS), (b_X11_measures_157 p1 v4_157 v6_157 w2_157 w7_157 μw_157) = f_X11_measures_l157_183 p1 v4_157 v6_157 w2_157 w7_157 μw_157 v2_183 v7_183 t0_183 μ_183 → of_X11_measures_l157_183 p1 v4_157 v6_157 w2_157 w7_157 μw_157 v2_183 v7_183 t0_183 μ_183 → ∀ (H : Heap) (locs : List Loc) (ls : Array Slot), HM D a mo μ_183 s.heap H locs → lv_has ls 10 [(0, .ref mo), (1, .int p1), (2, .long v2_183), (4, .long v4_157), (6, .int v6_157), (7, .int v7_183)] → W p l e R s m args below meth c H locs 0 0 Q (F0 m 183 ls [.int t0_183]) := by
            intro v2_183 v7_183 t0_183 μ_183 hf hok H locs ls hM hl
            refine lv_if_eq (tgt := 260) hx hb dX11_measures_183 (by decide) (fun c_15 => ?_) (fun c_15 => ?_)
            · have hf := hf.trans (if_pos c_15)
              have hok := oif_pos hok c_15
              exact J_l157_260 v2_183 v7_183 μ_183 hf _ _ ls hM (lv_sub hl [0, 1, 2, 3, 4, 5] rfl)
            · have hf := hf.trans (if_neg c_15)
              have hok := oif_neg hok c_15
              refine lv_lload_n hx hb dX11_measures_186 rfl (lv_at hl 2 rfl) ?_
              refine lv_lconst (v := 1) hx hb dX11_measures_187 (by decide) ?_
              refine lv_ladd hx hb dX11_measures_188 ?_
              refine lv_lstore_n (lv' := [(2, .long (v2_183 + 1)), (0, .ref mo), (1, .int p1), (4, .long v4_157), (6, .int v6_157), (7, .int v7_183)]) hx hb dX11_measures_189 rfl hl (by decide) rfl (fun ls hl => ?_)
              refine lv_aload_n hx hb dX11_measures_190 rfl (lv_at hl 1 rfl) ?_
              refine lv_iload hx hb dX11_measures_191 (lv_at hl 4 rfl) ?_
              refine lv_iload hx hb dX11_measures_193 (lv_at hl 5 rfl) ?_
              have ok_16 := And.left hok
              have hok := And.right hok
              refine cc_M (av := [.int v6_157, .int v7_183]) C hM (k_X11_beginsCross l D a mo μ_183 v6_157 v7_183 ok_16) cw_X11_220 (okR_of hRf hRl (Nat.le_of_ble_eq_true rfl) (Nat.le_of_ble_eq_true rfl)) rfl rfl hl.1 (Nat.le_of_ble_eq_true rfl) (Nat.zero_le _) (Nat.zero_le _) dX11_measures_195 (fun H locs hM => ?_)
              exact J_l157_198 (v2_183 + 1) v7_183 ((f_X11_beginsCross μ_183 v6_157 v7_183).1) ((f_X11_beginsCross μ_183 v6_157 v7_183).2) hf hok _ _ ls hM (lv_sub hl [1, 2, 0, 3, 4, 5] rfl)
          refine lv_iload hx hb dX11_measures_157 (lv_at hl 5 rfl) ?_
          refine lv_iload hx hb dX11_measures_159 (lv_at hl 4 rfl) ?_
          refine lv_icmp_ge (tgt := 266) hx hb dX11_measures_161 (by decide) (fun c_11 => ?_) (fun c_11 => ?_)
          · have hf := hf.trans (if_pos c_11)
            have hok := oif_pos hok c_11
            exact ke (w2_157, w7_157, μw_157) hf H locs ls hM (lv_sub hl [0, 1, 2, 3, 4] rfl)
          · have hf := hf.trans (if_neg c_11)
            have hok := oif_neg hok c_11
            refine lv_aload_n hx hb dX11_measures_164 rfl (lv_at hl 0 rfl) ?_
            refine mg_lowest C hM dX11_measures_165 ?_
            refine lv_iload hx hb dX11_measures_168 (lv_at hl 5 rfl) ?_
            have ok_12 := And.left hok
            have hok := And.right hok
            refine ma_lowest C hM ok_12 dX11_measures_170 ?_
            refine lv_iload_n hx hb dX11_measures_171 rfl (lv_at hl 1 rfl) ?_
            refine lv_icmp_ne (tgt := 260) hx hb dX11_measures_172 (by decide) (fun c_13 => ?_) (fun c_13 => ?_)
            · have hf := hf.trans (if_neg c_13)
              have hok := oif_neg hok c_13
              exact J_l157_260 w2_157 w7_157 μw_157 hf _ _ ls hM (lv_sub hl [0, 1, 2, 3, 4, 5] rfl)
            · have hf := hf.trans (if_pos c_13)
              have hok := oif_pos hok c_13
              refine lv_aload_n hx hb dX11_measures_175 rfl (lv_at hl 0 rfl) ?_
              refine lv_iload hx hb dX11_measures_176 (lv_at hl 4 rfl) ?_
              refine lv_iload hx hb dX11_measures_178 (lv_at hl 5 rfl) ?_
              have ok_14 := And.left hok
              have hok := And.right hok
              refine cc_M (av := [.int v6_157, .int w7_157]) C hM (k_X11_join l D a mo μw_157 v6_157 w7_157 ok_14) cw_X11_226 (okR_of hRf hRl (Nat.le_of_ble_eq_true rfl) (Nat.le_of_ble_eq_true rfl)) rfl rfl hl.1 (Nat.le_of_ble_eq_true rfl) (Nat.zero_le _) (Nat.zero_le _) dX11_measures_180 (fun H locs hM => ?_)
              exact J_l157_183 w2_157 w7_157 ((f_X11_join μw_157 v6_157 w7_157).1) ((f_X11_join μw_157 v6_157 w7_157).2) hf hok _ _ ls hM (lv_sub hl [0, 1, 2, 3, 4, 5] rfl)
        · have hok := And.right hok
          intro H locs ls hM hl
          exact J_l43_266 ((itr (s_X11_measures_157 p1 v4_157 v6_157) FU (v2_157, v7_157, μ_157)).1) v4_157 v6_157 ((itr (s_X11_measures_157 p1 v4_157 v6_157) FU (v2_157, v7_157, μ_157)).2.2) hf _ _ ls hM (lv_sub hl [0, 1, 2, 3, 4] rfl)
      have J_l43_151 : ∀ (v2_151 : Int64) (v4_151 : Int64) (v6_151 : Int32) (t0_151 : Int32) (μ_151 : MS), (b_X11_measures_43 p1 w2_43 w4_43 w6_43 μw_43) = f_X11_measures_l43_151 p1 w2_43 w4_43 w6_43 μw_43 v2_151 v4_151 v6_151 t0_151 μ_151 → of_X11_measures_l43_151 p1 w2_43 w4_43 w6_43 μw_43 v2_151 v4_151 v6_151 t0_151 μ_151 → ∀ (H : Heap) (locs : List Loc) (ls : Array Slot), HM D a mo μ_151 s.heap H locs → lv_has ls 10 [(0, .ref mo), (1, .int p1), (2, .long v2_151), (4, .long v4_151), (6, .int v6_151)] → W p l e R s m args below meth c H locs 0 0 Q (F0 m 151 ls [.int t0_151, .ref mo]) := by
        intro v2_151 v4_151 v6_151 t0_151 μ_151 hf hok H locs ls hM hl
        refine mp_brightest C hM dX11_measures_151 (fun H locs hM => ?_)
        refine lv_iload_n hx hb dX11_measures_154 rfl (lv_at hl 1 rfl) ?_
        refine lv_istore (lv' := [(7, .int p1), (0, .ref mo), (1, .int p1), (2, .long v2_151), (4, .long v4_151), (6, .int v6_151)]) hx hb dX11_measures_155 hl (by decide) rfl (fun ls hl => ?_)
        exact J_l43_157 v2_151 v4_151 v6_151 p1 (mI μ_151 34 0 t0_151) hf hok _ _ ls hM (lv_sub hl [1, 2, 3, 4, 5, 0] rfl)
      have J_l43_122 : ∀ (v2_122 : Int64) (v4_122 : Int64) (v6_122 : Int32) (μ_122 : MS), (b_X11_measures_43 p1 w2_43 w4_43 w6_43 μw_43) = f_X11_measures_l43_122 p1 w2_43 w4_43 w6_43 μw_43 v2_122 v4_122 v6_122 μ_122 → of_X11_measures_l43_122 p1 w2_43 w4_43 w6_43 μw_43 v2_122 v4_122 v6_122 μ_122 → ∀ (H : Heap) (locs : List Loc) (ls : Array Slot), HM D a mo μ_122 s.heap H locs → lv_has ls 10 [(0, .ref mo), (1, .int p1), (2, .long v2_122), (4, .long v4_122), (6, .int v6_122)] → W p l e R s m args below meth c H locs 0 0 Q (F0 m 122 ls []) := by
        intro v2_122 v4_122 v6_122 μ_122 hf hok H locs ls hM hl
        refine lv_aload_n hx hb dX11_measures_122 rfl (lv_at hl 0 rfl) ?_
        refine lv_aload_n hx hb dX11_measures_123 rfl (lv_at hl 0 rfl) ?_
        refine mg_lights C hM dX11_measures_124 ?_
        refine lv_iload hx hb dX11_measures_127 (lv_at hl 4 rfl) ?_
        have ok_9 := And.left hok
        have hok := And.right hok
        refine ma_lights C hM ok_9 dX11_measures_129 ?_
        refine lv_aload_n hx hb dX11_measures_130 rfl (lv_at hl 0 rfl) ?_
        refine mg_brightest C hM dX11_measures_131 ?_
        refine lv_icmp_le (tgt := 147) hx hb dX11_measures_134 (by decide) (fun c_10 => ?_) (fun c_10 => ?_)
        · have hf := hf.trans (if_pos c_10)
          have hok := oif_pos hok c_10
          refine lv_aload_n hx hb dX11_measures_147 rfl (lv_at hl 0 rfl) ?_
          refine mg_brightest C hM dX11_measures_148 ?_
          exact J_l43_151 v2_122 v4_122 v6_122 (mi μ_122 34 0) μ_122 hf hok _ _ ls hM (lv_sub hl [0, 1, 2, 3, 4] rfl)
        · have hf := hf.trans (if_neg c_10)
          have hok := oif_neg hok c_10
          refine lv_aload_n hx hb dX11_measures_137 rfl (lv_at hl 0 rfl) ?_
          refine mg_lights C hM dX11_measures_138 ?_
          refine lv_iload hx hb dX11_measures_141 (lv_at hl 4 rfl) ?_
          have ok_18 := And.left hok
          have hok := And.right hok
          refine ma_lights C hM ok_18 dX11_measures_143 ?_
          refine lv_goto (tgt := 151) hx hb dX11_measures_144 (by decide) ?_
          exact J_l43_151 v2_122 v4_122 v6_122 (mi μ_122 18 (ix v6_122)) μ_122 hf hok _ _ ls hM (lv_sub hl [0, 1, 2, 3, 4] rfl)
      refine lv_iload hx hb dX11_measures_43 (lv_at hl 4 rfl) ?_
      refine lv_aload_n hx hb dX11_measures_45 rfl (lv_at hl 0 rfl) ?_
      refine mg_sightings C hM dX11_measures_46 ?_
      refine lv_icmp_ge (tgt := 272) hx hb dX11_measures_49 (by decide) (fun c_1 => ?_) (fun c_1 => ?_)
      · have hf := hf.trans (if_pos c_1)
        have hok := oif_pos hok c_1
        exact ke (w2_43, w4_43, w6_43, μw_43) hf H locs ls hM (lv_sub hl [0, 2, 3] rfl)
      · have hf := hf.trans (if_neg c_1)
        have hok := oif_neg hok c_1
        refine lv_aload_n hx hb dX11_measures_52 rfl (lv_at hl 0 rfl) ?_
        refine mg_areJoined C hM dX11_measures_53 ?_
        refine lv_iload hx hb dX11_measures_56 (lv_at hl 4 rfl) ?_
        have ok_2 := And.left hok
        have hok := And.right hok
        refine ma_areJoined C hM ok_2 dX11_measures_58 ?_
        refine lv_if_eq (tgt := 266) hx hb dX11_measures_59 (by decide) (fun c_3 => ?_) (fun c_3 => ?_)
        · have hf := hf.trans (if_pos c_3)
          have hok := oif_pos hok c_3
          exact J_l43_266 w2_43 w4_43 w6_43 μw_43 hf _ _ ls hM (lv_sub hl [0, 1, 2, 3, 4] rfl)
        · have hf := hf.trans (if_neg c_3)
          have hok := oif_neg hok c_3
          refine lv_aload_n hx hb dX11_measures_62 rfl (lv_at hl 0 rfl) ?_
          refine mg_lowest C hM dX11_measures_63 ?_
          refine lv_iload hx hb dX11_measures_66 (lv_at hl 4 rfl) ?_
          have ok_4 := And.left hok
          have hok := And.right hok
          refine ma_lowest C hM ok_4 dX11_measures_68 ?_
          refine lv_iload_n hx hb dX11_measures_69 rfl (lv_at hl 1 rfl) ?_
          refine lv_icmp_ne (tgt := 266) hx hb dX11_measures_70 (by decide) (fun c_5 => ?_) (fun c_5 => ?_)
          · have hf := hf.trans (if_neg c_5)
            have hok := oif_neg hok c_5
            exact J_l43_266 w2_43 w4_43 w6_43 μw_43 hf _ _ ls hM (lv_sub hl [0, 1, 2, 3, 4] rfl)
          · have hf := hf.trans (if_pos c_5)
            have hok := oif_pos hok c_5
            refine lv_aload_n hx hb dX11_measures_73 rfl (lv_at hl 0 rfl) ?_
            refine lv_dup hx hb dX11_measures_74 rfl ?_
            refine mg_many C hM dX11_measures_75 ?_
            refine lv_iconst (v := 1) hx hb dX11_measures_78 (by decide) ?_
            refine lv_iadd hx hb dX11_measures_79 ?_
            refine mp_many C hM dX11_measures_80 (fun H locs hM => ?_)
            refine lv_lload hx hb dX11_measures_83 (lv_at hl 3 rfl) ?_
            refine lv_aload_n hx hb dX11_measures_85 rfl (lv_at hl 0 rfl) ?_
            refine mg_lengths C hM dX11_measures_86 ?_
            refine lv_iload hx hb dX11_measures_89 (lv_at hl 4 rfl) ?_
            have ok_6 := And.left hok
            have hok := And.right hok
            refine ma_lengths C hM ok_6 dX11_measures_91 ?_
            refine lv_i2l (v := ((mi μw_43 17 (ix w6_43)).toInt64)) hx hb dX11_measures_92 rfl ?_
            refine lv_ladd hx hb dX11_measures_93 ?_
            refine lv_lstore (lv' := [(4, .long (w4_43 + ((mi μw_43 17 (ix w6_43)).toInt64))), (0, .ref mo), (1, .int p1), (2, .long w2_43), (6, .int w6_43)]) hx hb dX11_measures_94 hl (by decide) rfl (fun ls hl => ?_)
            refine lv_aload_n hx hb dX11_measures_96 rfl (lv_at hl 1 rfl) ?_
            refine lv_dup hx hb dX11_measures_97 rfl ?_
            refine mg_byLight C hM dX11_measures_98 ?_
            refine lv_aload_n hx hb dX11_measures_101 rfl (lv_at hl 1 rfl) ?_
            refine mg_lights C hM dX11_measures_102 ?_
            refine lv_iload hx hb dX11_measures_105 (lv_at hl 4 rfl) ?_
            have ok_7 := And.left hok
            have hok := And.right hok
            refine ma_lights C hM ok_7 dX11_measures_107 ?_
            refine lv_i2l (v := ((mi μw_43 18 (ix w6_43)).toInt64)) hx hb dX11_measures_108 rfl ?_
            refine lv_aload_n hx hb dX11_measures_109 rfl (lv_at hl 1 rfl) ?_
            refine mg_lengths C hM dX11_measures_110 ?_
            refine lv_iload hx hb dX11_measures_113 (lv_at hl 4 rfl) ?_
            have ok_8 := And.left hok
            have hok := And.right hok
            refine ma_lengths C hM ok_8 dX11_measures_115 ?_
            refine lv_i2l (v := ((mi μw_43 17 (ix w6_43)).toInt64)) hx hb dX11_measures_116 rfl ?_
            refine lv_lmul hx hb dX11_measures_117 ?_
            refine lv_ladd hx hb dX11_measures_118 ?_
            refine mp_byLight C hM dX11_measures_119 (fun H locs hM => ?_)
            exact J_l43_122 w2_43 (w4_43 + ((mi μw_43 17 (ix w6_43)).toInt64)) w6_43 (mL (mI μw_43 32 0 ((mi μw_43 32 0) + 1)) 33 0 ((ml μw_43 33 0) + (((mi μw_43 18 (ix w6_43)).toInt64) * ((mi μw_43 17 (ix w6_43)).toInt64)))) hf hok _ _ ls hM (lv_sub hl [1, 2, 3, 0, 4] rfl)
    · have hok := And.right hok
      intro H locs ls hM hl
      exact J_272 ((itr (s_X11_measures_43 p1) FU (v2_43, v4_43, v6_43, μ_43)).1) ((itr (s_X11_measures_43 p1) FU (v2_43, v4_43, v6_43, μ_43)).2.1) ((itr (s_X11_measures_43 p1) FU (v2_43, v4_43, v6_43, μ_43)).2.2.2) hf hok _ _ ls hM (lv_sub hl [0, 1, 2] rfl)
  refine lv_aload_n hx hb dX11_measures_0 rfl (lv_at hl 0 rfl) ?_
  refine lv_lconst (v := 0) hx hb dX11_measures_1 (by decide) ?_
  refine mp_fromX C hM dX11_measures_2 (fun H locs hM => ?_)
  refine lv_aload_n hx hb dX11_measures_5 rfl (lv_at hl 0 rfl) ?_
  refine lv_lconst (v := 0) hx hb dX11_measures_6 (by decide) ?_
  refine mp_fromY C hM dX11_measures_7 (fun H locs hM => ?_)
  refine lv_aload_n hx hb dX11_measures_10 rfl (lv_at hl 0 rfl) ?_
  refine lv_lconst (v := 0) hx hb dX11_measures_11 (by decide) ?_
  refine mp_toX C hM dX11_measures_12 (fun H locs hM => ?_)
  refine lv_aload_n hx hb dX11_measures_15 rfl (lv_at hl 0 rfl) ?_
  refine lv_lconst (v := 0) hx hb dX11_measures_16 (by decide) ?_
  refine mp_toY C hM dX11_measures_17 (fun H locs hM => ?_)
  refine lv_aload_n hx hb dX11_measures_20 rfl (lv_at hl 0 rfl) ?_
  refine lv_iconst (v := 0) hx hb dX11_measures_21 (by decide) ?_
  refine mp_many C hM dX11_measures_22 (fun H locs hM => ?_)
  refine lv_aload_n hx hb dX11_measures_25 rfl (lv_at hl 0 rfl) ?_
  refine lv_lconst (v := 0) hx hb dX11_measures_26 (by decide) ?_
  refine mp_byLight C hM dX11_measures_27 (fun H locs hM => ?_)
  refine lv_aload_n hx hb dX11_measures_30 rfl (lv_at hl 0 rfl) ?_
  refine lv_iconst (v := 0) hx hb dX11_measures_31 (by decide) ?_
  refine mp_brightest C hM dX11_measures_32 (fun H locs hM => ?_)
  refine lv_lconst (v := 0) hx hb dX11_measures_35 (by decide) ?_
  refine lv_lstore_n (lv' := [(2, .long 0), (0, .ref mo), (1, .int p1)]) hx hb dX11_measures_36 rfl hl (by decide) rfl (fun ls hl => ?_)
  refine lv_lconst (v := 0) hx hb dX11_measures_37 (by decide) ?_
  refine lv_lstore (lv' := [(4, .long 0), (2, .long 0), (0, .ref mo), (1, .int p1)]) hx hb dX11_measures_38 hl (by decide) rfl (fun ls hl => ?_)
  refine lv_iload_n hx hb dX11_measures_40 rfl (lv_at hl 3 rfl) ?_
  refine lv_istore (lv' := [(6, .int p1), (4, .long 0), (2, .long 0), (0, .ref mo), (1, .int p1)]) hx hb dX11_measures_41 hl (by decide) rfl (fun ls hl => ?_)
  exact J_43 0 0 p1 (mI (mL (mI (mL (mL (mL (mL μ 27 0 0) 28 0 0) 29 0 0) 30 0 0) 32 0 0) 33 0 0) 34 0 0) hf hok _ _ ls hM (lv_sub hl [3, 4, 2, 1, 0] rfl)
def f_X11_told_49 (μ : MS) (p1 : Int32) (p2 : Int32) (μ_49 : MS) : Int64 × MS := (if p2 = 0 then (((mi μ_49 32 0).toInt64), μ_49) else (if p2 = 1 then ((ml μ_49 27 0), μ_49) else (if p2 = 2 then ((ml μ_49 28 0), μ_49) else (if p2 = 3 then ((ml μ_49 29 0), μ_49) else (if p2 = 4 then ((ml μ_49 30 0), μ_49) else (if p2 = 5 then ((ml μ_49 31 0), μ_49) else (if p2 = 6 then ((ml μ_49 33 0), μ_49) else (((1000 * ((mi μ_49 34 0).toInt64)) / ((ml μ_49 31 0) + 1)), μ_49))))))))
def of_X11_told_49 (μ : MS) (p1 : Int32) (p2 : Int32) (μ_49 : MS) : Prop := (oif (p2 = 0) True (oif (p2 = 1) True (oif (p2 = 2) True (oif (p2 = 3) True (oif (p2 = 4) True (oif (p2 = 5) True (oif (p2 = 6) True (¬ ((ml μ_49 31 0) + 1) = 0 ∧ True))))))))
def f_X11_told_32 (μ : MS) (p1 : Int32) (p2 : Int32) (t0_32 : Int32) (μ_32 : MS) : Int64 × MS := (if t0_32 ≤ 0 then (f_X11_told_49 μ p1 p2 (f_X11_measures (mI μ_32 0 0 t0_32) p1)) else (0, (mI μ_32 0 0 t0_32)))
def of_X11_told_32 (μ : MS) (p1 : Int32) (p2 : Int32) (t0_32 : Int32) (μ_32 : MS) : Prop := (oif (t0_32 ≤ 0) (of_X11_measures (mI μ_32 0 0 t0_32) p1 ∧ (of_X11_told_49 μ p1 p2 (f_X11_measures (mI μ_32 0 0 t0_32) p1))) True)
def f_X11_told_4 (μ : MS) (p1 : Int32) (p2 : Int32) (μ_4 : MS) : Int64 × MS := (if (f_X11_isFireball μ_4 p1) = 0 then (f_X11_told_32 μ p1 p2 1 μ_4) else (if (f_X11_isIn p2 0 7) = 0 then (f_X11_told_32 μ p1 p2 2 μ_4) else (f_X11_told_32 μ p1 p2 0 μ_4)))
def of_X11_told_4 (μ : MS) (p1 : Int32) (p2 : Int32) (μ_4 : MS) : Prop := (of_X11_isFireball μ_4 p1 ∧ (oif ((f_X11_isFireball μ_4 p1) = 0) (of_X11_told_32 μ p1 p2 1 μ_4) (oif ((f_X11_isIn p2 0 7) = 0) (of_X11_told_32 μ p1 p2 2 μ_4) (of_X11_told_32 μ p1 p2 0 μ_4))))
def f_X11_told (μ : MS) (p1 : Int32) (p2 : Int32) : Int64 × MS := (f_X11_told_4 μ p1 p2 (f_X11_spreads μ))
def of_X11_told (μ : MS) (p1 : Int32) (p2 : Int32) : Prop := (of_X11_spreads μ ∧ (of_X11_told_4 μ p1 p2 (f_X11_spreads μ)))
set_option maxHeartbeats 4000000 in
set_option maxRecDepth 100000 in
theorem k_X11_told (l : Launch) (D : va_G) (a : Nat → ClassId) (mo : Nat) (μ : MS) (p1 : Int32) (p2 : Int32) (hok : of_X11_told μ p1 p2) : KM l D a mo yX11_told cX11_told 3 ((some .long)) 5 134 [.int p1, .int p2] μ (some (.long (f_X11_told μ p1 p2).1)) (f_X11_told μ p1 p2).2 := by
  refine goMl (by decide +kernel) (Nat.le_of_ble_eq_true rfl) ?_
  intro p e s m args below meth c ls R Q hRf hRl C hl hB
  obtain ⟨hM, ret⟩ := hB
  have hl : lv_has ls 3 [(0, .ref mo), (1, .int p1), (2, .int p2)] := hl
  have hx := C.1.1
  have hb := C.1.2.1
  have hts := C.1.2.2.2.2
  have hown := C.1.2.2.2.1
  have hf : (f_X11_told μ p1 p2) = (f_X11_told μ p1 p2) := rfl
  have J_49 : ∀ (μ_49 : MS), (f_X11_told μ p1 p2) = f_X11_told_49 μ p1 p2 μ_49 → of_X11_told_49 μ p1 p2 μ_49 → ∀ (H : Heap) (locs : List Loc) (ls : Array Slot), HM D a mo μ_49 s.heap H locs → lv_has ls 3 [(0, .ref mo), (2, .int p2)] → W p l e R s m args below meth c H locs 0 0 Q (F0 m 49 ls []) := by
    intro μ_49 hf hok H locs ls hM hl
    refine lv_iload_n hx hb dX11_told_49 rfl (lv_at hl 1 rfl) ?_
    by_cases c_7 : p2 = 0
    · have hf := hf.trans (if_pos c_7)
      have hok := oif_pos hok c_7
      refine sw_in (tgt := 92) hx hb dX11_told_50 c_7 (by decide) (by decide) rfl (by decide) ?_
      refine lv_aload_n hx hb dX11_told_92 rfl (lv_at hl 0 rfl) ?_
      refine mg_many C hM dX11_told_93 ?_
      refine lv_i2l (v := ((mi μ_49 32 0).toInt64)) hx hb dX11_told_96 rfl ?_
      exact ret _ _ _ _ _ _ hM dX11_told_97 hf
    · have hf := hf.trans (if_neg c_7)
      have hok := oif_neg hok c_7
      by_cases c_8 : p2 = 1
      · have hf := hf.trans (if_pos c_8)
        have hok := oif_pos hok c_8
        refine sw_in (tgt := 98) hx hb dX11_told_50 c_8 (by decide) (by decide) rfl (by decide) ?_
        refine lv_aload_n hx hb dX11_told_98 rfl (lv_at hl 0 rfl) ?_
        refine mg_fromX C hM dX11_told_99 ?_
        exact ret _ _ _ _ _ _ hM dX11_told_102 hf
      · have hf := hf.trans (if_neg c_8)
        have hok := oif_neg hok c_8
        by_cases c_9 : p2 = 2
        · have hf := hf.trans (if_pos c_9)
          have hok := oif_pos hok c_9
          refine sw_in (tgt := 103) hx hb dX11_told_50 c_9 (by decide) (by decide) rfl (by decide) ?_
          refine lv_aload_n hx hb dX11_told_103 rfl (lv_at hl 0 rfl) ?_
          refine mg_fromY C hM dX11_told_104 ?_
          exact ret _ _ _ _ _ _ hM dX11_told_107 hf
        · have hf := hf.trans (if_neg c_9)
          have hok := oif_neg hok c_9
          by_cases c_10 : p2 = 3
          · have hf := hf.trans (if_pos c_10)
            have hok := oif_pos hok c_10
            refine sw_in (tgt := 108) hx hb dX11_told_50 c_10 (by decide) (by decide) rfl (by decide) ?_
            refine lv_aload_n hx hb dX11_told_108 rfl (lv_at hl 0 rfl) ?_
            refine mg_toX C hM dX11_told_109 ?_
            exact ret _ _ _ _ _ _ hM dX11_told_112 hf
          · have hf := hf.trans (if_neg c_10)
            have hok := oif_neg hok c_10
            by_cases c_11 : p2 = 4
            · have hf := hf.trans (if_pos c_11)
              have hok := oif_pos hok c_11
              refine sw_in (tgt := 113) hx hb dX11_told_50 c_11 (by decide) (by decide) rfl (by decide) ?_
              refine lv_aload_n hx hb dX11_told_113 rfl (lv_at hl 0 rfl) ?_
              refine mg_toY C hM dX11_told_114 ?_
              exact ret _ _ _ _ _ _ hM dX11_told_117 hf
            · have hf := hf.trans (if_neg c_11)
              have hok := oif_neg hok c_11
              by_cases c_12 : p2 = 5
              · have hf := hf.trans (if_pos c_12)
                have hok := oif_pos hok c_12
                refine sw_in (tgt := 118) hx hb dX11_told_50 c_12 (by decide) (by decide) rfl (by decide) ?_
                refine lv_aload_n hx hb dX11_told_118 rfl (lv_at hl 0 rfl) ?_
                refine mg_speed C hM dX11_told_119 ?_
                exact ret _ _ _ _ _ _ hM dX11_told_122 hf
              · have hf := hf.trans (if_neg c_12)
                have hok := oif_neg hok c_12
                by_cases c_13 : p2 = 6
                · have hf := hf.trans (if_pos c_13)
                  have hok := oif_pos hok c_13
                  refine sw_in (tgt := 123) hx hb dX11_told_50 c_13 (by decide) (by decide) rfl (by decide) ?_
                  refine lv_aload_n hx hb dX11_told_123 rfl (lv_at hl 0 rfl) ?_
                  refine mg_byLight C hM dX11_told_124 ?_
                  exact ret _ _ _ _ _ _ hM dX11_told_127 hf
                · have hf := hf.trans (if_neg c_13)
                  have hok := oif_neg hok c_13
                  refine lv_tableOut (tgt := 128) hx hb dX11_told_50 (by have e0 := lv_neT c_7 (a := 0) (by decide); have e1 := lv_neT c_8 (a := 1) (by decide); have e2 := lv_neT c_9 (a := 2) (by decide); have e3 := lv_neT c_10 (a := 3) (by decide); have e4 := lv_neT c_11 (a := 4) (by decide); have e5 := lv_neT c_12 (a := 5) (by decide); have e6 := lv_neT c_13 (a := 6) (by decide); omega) (by decide) ?_
                  refine lv_ldc2 (v := 1000) hx hb hown (hts _ q_1485) dX11_told_128 ?_
                  refine lv_aload_n hx hb dX11_told_131 rfl (lv_at hl 0 rfl) ?_
                  refine mg_brightest C hM dX11_told_132 ?_
                  refine lv_i2l (v := ((mi μ_49 34 0).toInt64)) hx hb dX11_told_135 rfl ?_
                  refine lv_lmul hx hb dX11_told_136 ?_
                  refine lv_aload_n hx hb dX11_told_137 rfl (lv_at hl 0 rfl) ?_
                  refine mg_speed C hM dX11_told_138 ?_
                  refine lv_lconst (v := 1) hx hb dX11_told_141 (by decide) ?_
                  refine lv_ladd hx hb dX11_told_142 ?_
                  have ok_14 := And.left hok
                  have hok := And.right hok
                  refine lv_ldiv hx hb dX11_told_143 ok_14 ?_
                  exact ret _ _ _ _ _ _ hM dX11_told_144 hf
  have J_32 : ∀ (t0_32 : Int32) (μ_32 : MS), (f_X11_told μ p1 p2) = f_X11_told_32 μ p1 p2 t0_32 μ_32 → of_X11_told_32 μ p1 p2 t0_32 μ_32 → ∀ (H : Heap) (locs : List Loc) (ls : Array Slot), HM D a mo μ_32 s.heap H locs → lv_has ls 3 [(0, .ref mo), (1, .int p1), (2, .int p2)] → W p l e R s m args below meth c H locs 0 0 Q (F0 m 32 ls [.int t0_32, .ref mo]) := by
    intro t0_32 μ_32 hf hok H locs ls hM hl
    refine mp_thrown C hM dX11_told_32 (fun H locs hM => ?_)
    refine lv_aload_n hx hb dX11_told_35 rfl (lv_at hl 0 rfl) ?_
    refine mg_thrown C hM dX11_told_36 ?_
    refine lv_if_le (tgt := 44) hx hb dX11_told_39 (by decide) (fun c_5 => ?_) (fun c_5 => ?_)
    · have hf := hf.trans (if_pos c_5)
      have hok := oif_pos hok c_5
      refine lv_aload_n hx hb dX11_told_44 rfl (lv_at hl 0 rfl) ?_
      refine lv_iload_n hx hb dX11_told_45 rfl (lv_at hl 1 rfl) ?_
      have ok_6 := And.left hok
      have hok := And.right hok
      refine cc_M (av := [.int p1]) C hM (k_X11_measures l D a mo (mI μ_32 0 0 t0_32) p1 ok_6) cw_X11_269 (okR_of hRf hRl (Nat.le_of_ble_eq_true rfl) (Nat.le_of_ble_eq_true rfl)) rfl rfl hl.1 (Nat.le_of_ble_eq_true rfl) (Nat.zero_le _) (Nat.zero_le _) dX11_told_46 (fun H locs hM => ?_)
      exact J_49 (f_X11_measures (mI μ_32 0 0 t0_32) p1) hf hok _ _ ls hM (lv_sub hl [0, 2] rfl)
    · have hf := hf.trans (if_neg c_5)
      have hok := oif_neg hok c_5
      refine lv_lconst (v := 0) hx hb dX11_told_42 (by decide) ?_
      exact ret _ _ _ _ _ _ hM dX11_told_43 hf
  have J_4 : ∀ (μ_4 : MS), (f_X11_told μ p1 p2) = f_X11_told_4 μ p1 p2 μ_4 → of_X11_told_4 μ p1 p2 μ_4 → ∀ (H : Heap) (locs : List Loc) (ls : Array Slot), HM D a mo μ_4 s.heap H locs → lv_has ls 3 [(0, .ref mo), (1, .int p1), (2, .int p2)] → W p l e R s m args below meth c H locs 0 0 Q (F0 m 4 ls []) := by
    intro μ_4 hf hok H locs ls hM hl
    refine lv_aload_n hx hb dX11_told_4 rfl (lv_at hl 0 rfl) ?_
    refine lv_aload_n hx hb dX11_told_5 rfl (lv_at hl 0 rfl) ?_
    refine lv_iload_n hx hb dX11_told_6 rfl (lv_at hl 1 rfl) ?_
    have ok_2 := And.left hok
    have hok := And.right hok
    refine cc_R (av := [.int p1]) C hM (k_X11_isFireball l D a mo μ_4 p1 ok_2) cw_X11_236 (okR_of hRf hRl (Nat.le_of_ble_eq_true rfl) (Nat.le_of_ble_eq_true rfl)) rfl rfl hl.1 (Nat.le_of_ble_eq_true rfl) (Nat.zero_le _) (Nat.zero_le _) dX11_told_7 ?_
    refine lv_if_ne (tgt := 17) hx hb dX11_told_10 (by decide) (fun c_3 => ?_) (fun c_3 => ?_)
    · have hf := hf.trans (if_neg c_3)
      have hok := oif_neg hok c_3
      refine lv_iload_n hx hb dX11_told_17 rfl (lv_at hl 2 rfl) ?_
      refine lv_iconst (v := 0) hx hb dX11_told_18 (by decide) ?_
      refine lv_bipush (v := 7) hx hb dX11_told_19 (by decide) ?_
      refine cc_S (av := [.int p2, .int 0, .int 7]) C (k_X11_isIn l D a p2 0 7) cw_X11_158 (okR_of hRf hRl (Nat.le_of_ble_eq_true rfl) (Nat.le_of_ble_eq_true rfl)) rfl rfl hl.1 (Nat.le_of_ble_eq_true rfl) (Nat.zero_le _) (Nat.zero_le _) dX11_told_21 ?_
      refine lv_if_ne (tgt := 31) hx hb dX11_told_24 (by decide) (fun c_4 => ?_) (fun c_4 => ?_)
      · have hf := hf.trans (if_neg c_4)
        have hok := oif_neg hok c_4
        refine lv_iconst (v := 0) hx hb dX11_told_31 (by decide) ?_
        exact J_32 0 μ_4 hf hok _ _ ls hM (lv_sub hl [0, 1, 2] rfl)
      · have hf := hf.trans (if_pos c_4)
        have hok := oif_pos hok c_4
        refine lv_iconst (v := 2) hx hb dX11_told_27 (by decide) ?_
        refine lv_goto (tgt := 32) hx hb dX11_told_28 (by decide) ?_
        exact J_32 2 μ_4 hf hok _ _ ls hM (lv_sub hl [0, 1, 2] rfl)
    · have hf := hf.trans (if_pos c_3)
      have hok := oif_pos hok c_3
      refine lv_iconst (v := 1) hx hb dX11_told_13 (by decide) ?_
      refine lv_goto (tgt := 32) hx hb dX11_told_14 (by decide) ?_
      exact J_32 1 μ_4 hf hok _ _ ls hM (lv_sub hl [0, 1, 2] rfl)
  refine lv_aload_n hx hb dX11_told_0 rfl (lv_at hl 0 rfl) ?_
  have ok_1 := And.left hok
  have hok := And.right hok
  refine cc_M (av := []) C hM (k_X11_spreads l D a mo μ ok_1) cw_X11_229 (okR_of hRf hRl (Nat.le_of_ble_eq_true rfl) (Nat.le_of_ble_eq_true rfl)) rfl rfl hl.1 (Nat.le_of_ble_eq_true rfl) (Nat.zero_le _) (Nat.zero_le _) dX11_told_1 (fun H locs hM => ?_)
  exact J_4 (f_X11_spreads μ) hf hok _ _ ls hM (lv_sub hl [0, 1, 2] rfl)
def f_X11_stream_247 (μ : MS) (p1 : Int32) (p2 : Int32) (v19_247 : Int64) (t0_247 : Int64) (t1_247 : Int64) (μ_247 : MS) : Int32 × MS := (if 0 < (lg_cmp (t1_247 * t0_247) v19_247) then (0, μ_247) else (1, μ_247))
def f_X11_stream_203 (μ : MS) (p1 : Int32) (p2 : Int32) (v13_203 : Int64) (v15_203 : Int64) (v17_203 : Int64) (v19_203 : Int64) (t0_203 : Int32) (μ_203 : MS) : Int32 × MS := (if 0 < (lg_cmp (10 * v15_203) v13_203) then (0, μ_203) else (if t0_203 = 0 then (0, μ_203) else (if (lg_cmp v19_203 0) ≤ 0 then (0, μ_203) else (if 0 ≤ (lg_cmp v17_203 0) then (f_X11_stream_247 μ p1 p2 v19_203 v17_203 10 μ_203) else (f_X11_stream_247 μ p1 p2 v19_203 (-v17_203) 10 μ_203)))))
def f_X11_stream_184 (μ : MS) (p1 : Int32) (p2 : Int32) (v9_184 : Int64) (v11_184 : Int64) (v13_184 : Int64) (v15_184 : Int64) (v17_184 : Int64) (v19_184 : Int64) (μ_184 : MS) : Int32 × MS := (if (lg_cmp v9_184 0) = 0 then (if (lg_cmp v11_184 0) = 0 then (f_X11_stream_203 μ p1 p2 v13_184 v15_184 v17_184 v19_184 0 μ_184) else (f_X11_stream_203 μ p1 p2 v13_184 v15_184 v17_184 v19_184 1 μ_184)) else (f_X11_stream_203 μ p1 p2 v13_184 v15_184 v17_184 v19_184 1 μ_184))
def f_X11_stream_145 (μ : MS) (p1 : Int32) (p2 : Int32) (v3_145 : Int64) (v5_145 : Int64) (v9_145 : Int64) (v11_145 : Int64) (v13_145 : Int64) (t0_145 : Int64) (μ_145 : MS) : Int32 × MS := (if (lg_cmp v3_145 0) = 0 then (if (lg_cmp v5_145 0) = 0 then (f_X11_stream_203 μ p1 p2 v13_145 t0_145 ((v3_145 * v11_145) - (v5_145 * v9_145)) ((v3_145 * v9_145) + (v5_145 * v11_145)) 0 μ_145) else (f_X11_stream_184 μ p1 p2 v9_145 v11_145 v13_145 t0_145 ((v3_145 * v11_145) - (v5_145 * v9_145)) ((v3_145 * v9_145) + (v5_145 * v11_145)) μ_145)) else (f_X11_stream_184 μ p1 p2 v9_145 v11_145 v13_145 t0_145 ((v3_145 * v11_145) - (v5_145 * v9_145)) ((v3_145 * v9_145) + (v5_145 * v11_145)) μ_145))
def f_X11_stream_116 (μ : MS) (p1 : Int32) (p2 : Int32) (v3_116 : Int64) (v5_116 : Int64) (v7_116 : Int64) (v9_116 : Int64) (v11_116 : Int64) (t0_116 : Int64) (μ_116 : MS) : Int32 × MS := (if (lg_cmp v7_116 (ml μ_116 31 0)) ≤ 0 then (f_X11_stream_145 μ p1 p2 v3_116 v5_116 v9_116 v11_116 t0_116 ((ml μ_116 31 0) - v7_116) μ_116) else (f_X11_stream_145 μ p1 p2 v3_116 v5_116 v9_116 v11_116 t0_116 (v7_116 - (ml μ_116 31 0)) μ_116))
def f_X11_stream_75 (μ : MS) (p1 : Int32) (p2 : Int32) (v3_75 : Int64) (v5_75 : Int64) (v7_75 : Int64) (μ_75 : MS) : Int32 × MS := (if (lg_cmp v7_75 (ml μ_75 31 0)) ≤ 0 then (f_X11_stream_116 μ p1 p2 v3_75 v5_75 v7_75 ((ml μ_75 29 0) - (ml μ_75 27 0)) ((ml μ_75 30 0) - (ml μ_75 28 0)) (ml μ_75 31 0) μ_75) else (f_X11_stream_116 μ p1 p2 v3_75 v5_75 v7_75 ((ml μ_75 29 0) - (ml μ_75 27 0)) ((ml μ_75 30 0) - (ml μ_75 28 0)) v7_75 μ_75))
def f_X11_stream_43 (μ : MS) (p1 : Int32) (p2 : Int32) (μ_43 : MS) : Int32 × MS := (f_X11_stream_75 μ p1 p2 ((ml μ_43 29 0) - (ml μ_43 27 0)) ((ml μ_43 30 0) - (ml μ_43 28 0)) (ml μ_43 31 0) (f_X11_measures μ_43 p2))
def of_X11_stream_43 (μ : MS) (p1 : Int32) (p2 : Int32) (μ_43 : MS) : Prop := (of_X11_measures μ_43 p2 ∧ True)
def f_X11_stream_26 (μ : MS) (p1 : Int32) (p2 : Int32) (t0_26 : Int32) (μ_26 : MS) : Int32 × MS := (if t0_26 ≤ 0 then (f_X11_stream_43 μ p1 p2 (f_X11_measures (mI μ_26 0 0 t0_26) p1)) else (0, (mI μ_26 0 0 t0_26)))
def of_X11_stream_26 (μ : MS) (p1 : Int32) (p2 : Int32) (t0_26 : Int32) (μ_26 : MS) : Prop := (oif (t0_26 ≤ 0) (of_X11_measures (mI μ_26 0 0 t0_26) p1 ∧ (of_X11_stream_43 μ p1 p2 (f_X11_measures (mI μ_26 0 0 t0_26) p1))) True)
def f_X11_stream_4 (μ : MS) (p1 : Int32) (p2 : Int32) (μ_4 : MS) : Int32 × MS := (if (f_X11_isFireball μ_4 p1) = 0 then (f_X11_stream_26 μ p1 p2 1 μ_4) else (if (f_X11_isFireball μ_4 p2) = 0 then (f_X11_stream_26 μ p1 p2 1 μ_4) else (f_X11_stream_26 μ p1 p2 0 μ_4)))
def of_X11_stream_4 (μ : MS) (p1 : Int32) (p2 : Int32) (μ_4 : MS) : Prop := (of_X11_isFireball μ_4 p1 ∧ (oif ((f_X11_isFireball μ_4 p1) = 0) (of_X11_stream_26 μ p1 p2 1 μ_4) (of_X11_isFireball μ_4 p2 ∧ (oif ((f_X11_isFireball μ_4 p2) = 0) (of_X11_stream_26 μ p1 p2 1 μ_4) (of_X11_stream_26 μ p1 p2 0 μ_4)))))
def f_X11_stream (μ : MS) (p1 : Int32) (p2 : Int32) : Int32 × MS := (f_X11_stream_4 μ p1 p2 (f_X11_spreads μ))
def of_X11_stream (μ : MS) (p1 : Int32) (p2 : Int32) : Prop := (of_X11_spreads μ ∧ (of_X11_stream_4 μ p1 p2 (f_X11_spreads μ)))
set_option maxHeartbeats 4000000 in
set_option maxRecDepth 100000 in
theorem k_X11_stream (l : Launch) (D : va_G) (a : Nat → ClassId) (mo : Nat) (μ : MS) (p1 : Int32) (p2 : Int32) (hok : of_X11_stream μ p1 p2) : KM l D a mo yX11_stream cX11_stream 22 ((some .boolean)) 5 134 [.int p1, .int p2] μ (some (.int (f_X11_stream μ p1 p2).1)) (f_X11_stream μ p1 p2).2 := by
  refine goMz (by decide +kernel) (Nat.le_of_ble_eq_true rfl) ?_
  intro p e s m args below meth c ls R Q hRf hRl C hl hB
  obtain ⟨hM, ret⟩ := hB
  have hl : lv_has ls 22 [(0, .ref mo), (1, .int p1), (2, .int p2)] := hl
  have hx := C.1.1
  have hb := C.1.2.1
  have hts := C.1.2.2.2.2
  have hown := C.1.2.2.2.1
  have hf : (f_X11_stream μ p1 p2) = (f_X11_stream μ p1 p2) := rfl
  have J_247 : ∀ (v19_247 : Int64) (t0_247 : Int64) (t1_247 : Int64) (μ_247 : MS), (f_X11_stream μ p1 p2) = f_X11_stream_247 μ p1 p2 v19_247 t0_247 t1_247 μ_247 → ∀ (H : Heap) (locs : List Loc) (ls : Array Slot), HM D a mo μ_247 s.heap H locs → lv_has ls 22 [(19, .long v19_247)] → W p l e R s m args below meth c H locs 0 0 Q (F0 m 247 ls [.long t0_247, .long t1_247]) := by
    intro v19_247 t0_247 t1_247 μ_247 hf H locs ls hM hl
    refine lv_lmul hx hb dX11_stream_247 ?_
    refine lv_lload hx hb dX11_stream_248 (lv_at hl 0 rfl) ?_
    refine W.lcmp hx hb dX11_stream_250 ?_
    refine lv_if_gt (tgt := 258) hx hb dX11_stream_251 (by decide) (fun c_15 => ?_) (fun c_15 => ?_)
    · have hf := hf.trans (if_pos c_15)
      refine lv_iconst (v := 0) hx hb dX11_stream_258 (by decide) ?_
      exact ret _ _ _ _ _ _ hM dX11_stream_259 (by unfold zb; decide) hf
    · have hf := hf.trans (if_neg c_15)
      refine lv_iconst (v := 1) hx hb dX11_stream_254 (by decide) ?_
      refine lv_goto (tgt := 259) hx hb dX11_stream_255 (by decide) ?_
      exact ret _ _ _ _ _ _ hM dX11_stream_259 (by unfold zb; decide) hf
  have J_203 : ∀ (v13_203 : Int64) (v15_203 : Int64) (v17_203 : Int64) (v19_203 : Int64) (t0_203 : Int32) (μ_203 : MS), (f_X11_stream μ p1 p2) = f_X11_stream_203 μ p1 p2 v13_203 v15_203 v17_203 v19_203 t0_203 μ_203 → ∀ (H : Heap) (locs : List Loc) (ls : Array Slot), HM D a mo μ_203 s.heap H locs → lv_has ls 22 [(13, .long v13_203), (15, .long v15_203), (17, .long v17_203), (19, .long v19_203)] → W p l e R s m args below meth c H locs 0 0 Q (F0 m 203 ls [.int t0_203]) := by
    intro v13_203 v15_203 v17_203 v19_203 t0_203 μ_203 hf H locs ls hM hl
    refine lv_istore (lv' := [(21, .int t0_203), (13, .long v13_203), (15, .long v15_203), (17, .long v17_203), (19, .long v19_203)]) hx hb dX11_stream_203 hl (by decide) rfl (fun ls hl => ?_)
    refine lv_ldc2 (v := 10) hx hb hown (hts _ q_1479) dX11_stream_205 ?_
    refine lv_lload hx hb dX11_stream_208 (lv_at hl 2 rfl) ?_
    refine lv_lmul hx hb dX11_stream_210 ?_
    refine lv_lload hx hb dX11_stream_211 (lv_at hl 1 rfl) ?_
    refine W.lcmp hx hb dX11_stream_213 ?_
    refine lv_if_gt (tgt := 258) hx hb dX11_stream_214 (by decide) (fun c_11 => ?_) (fun c_11 => ?_)
    · have hf := hf.trans (if_pos c_11)
      refine lv_iconst (v := 0) hx hb dX11_stream_258 (by decide) ?_
      exact ret _ _ _ _ _ _ hM dX11_stream_259 (by unfold zb; decide) hf
    · have hf := hf.trans (if_neg c_11)
      refine lv_iload hx hb dX11_stream_217 (lv_at hl 0 rfl) ?_
      refine lv_if_eq (tgt := 258) hx hb dX11_stream_219 (by decide) (fun c_12 => ?_) (fun c_12 => ?_)
      · have hf := hf.trans (if_pos c_12)
        refine lv_iconst (v := 0) hx hb dX11_stream_258 (by decide) ?_
        exact ret _ _ _ _ _ _ hM dX11_stream_259 (by unfold zb; decide) hf
      · have hf := hf.trans (if_neg c_12)
        refine lv_lload hx hb dX11_stream_222 (lv_at hl 4 rfl) ?_
        refine lv_lconst (v := 0) hx hb dX11_stream_224 (by decide) ?_
        refine W.lcmp hx hb dX11_stream_225 ?_
        refine lv_if_le (tgt := 258) hx hb dX11_stream_226 (by decide) (fun c_13 => ?_) (fun c_13 => ?_)
        · have hf := hf.trans (if_pos c_13)
          refine lv_iconst (v := 0) hx hb dX11_stream_258 (by decide) ?_
          exact ret _ _ _ _ _ _ hM dX11_stream_259 (by unfold zb; decide) hf
        · have hf := hf.trans (if_neg c_13)
          refine lv_ldc2 (v := 10) hx hb hown (hts _ q_1479) dX11_stream_229 ?_
          refine lv_lload hx hb dX11_stream_232 (lv_at hl 3 rfl) ?_
          refine lv_lconst (v := 0) hx hb dX11_stream_234 (by decide) ?_
          refine W.lcmp hx hb dX11_stream_235 ?_
          refine lv_if_ge (tgt := 245) hx hb dX11_stream_236 (by decide) (fun c_14 => ?_) (fun c_14 => ?_)
          · have hf := hf.trans (if_pos c_14)
            refine lv_lload hx hb dX11_stream_245 (lv_at hl 3 rfl) ?_
            exact J_247 v19_203 v17_203 10 μ_203 hf _ _ ls hM (lv_sub hl [4] rfl)
          · have hf := hf.trans (if_neg c_14)
            refine lv_lload hx hb dX11_stream_239 (lv_at hl 3 rfl) ?_
            refine lv_lneg hx hb dX11_stream_241 ?_
            refine lv_goto (tgt := 247) hx hb dX11_stream_242 (by decide) ?_
            exact J_247 v19_203 (-v17_203) 10 μ_203 hf _ _ ls hM (lv_sub hl [4] rfl)
  have J_184 : ∀ (v9_184 : Int64) (v11_184 : Int64) (v13_184 : Int64) (v15_184 : Int64) (v17_184 : Int64) (v19_184 : Int64) (μ_184 : MS), (f_X11_stream μ p1 p2) = f_X11_stream_184 μ p1 p2 v9_184 v11_184 v13_184 v15_184 v17_184 v19_184 μ_184 → ∀ (H : Heap) (locs : List Loc) (ls : Array Slot), HM D a mo μ_184 s.heap H locs → lv_has ls 22 [(9, .long v9_184), (11, .long v11_184), (13, .long v13_184), (15, .long v15_184), (17, .long v17_184), (19, .long v19_184)] → W p l e R s m args below meth c H locs 0 0 Q (F0 m 184 ls []) := by
    intro v9_184 v11_184 v13_184 v15_184 v17_184 v19_184 μ_184 hf H locs ls hM hl
    refine lv_lload hx hb dX11_stream_184 (lv_at hl 0 rfl) ?_
    refine lv_lconst (v := 0) hx hb dX11_stream_186 (by decide) ?_
    refine W.lcmp hx hb dX11_stream_187 ?_
    refine lv_if_ne (tgt := 198) hx hb dX11_stream_188 (by decide) (fun c_10 => ?_) (fun c_10 => ?_)
    · have hf := hf.trans (if_neg c_10)
      refine lv_iconst (v := 1) hx hb dX11_stream_198 (by decide) ?_
      refine lv_goto (tgt := 203) hx hb dX11_stream_199 (by decide) ?_
      exact J_203 v13_184 v15_184 v17_184 v19_184 1 μ_184 hf _ _ ls hM (lv_sub hl [2, 3, 4, 5] rfl)
    · have hf := hf.trans (if_pos c_10)
      refine lv_lload hx hb dX11_stream_191 (lv_at hl 1 rfl) ?_
      refine lv_lconst (v := 0) hx hb dX11_stream_193 (by decide) ?_
      refine W.lcmp hx hb dX11_stream_194 ?_
      refine lv_if_eq (tgt := 202) hx hb dX11_stream_195 (by decide) (fun c_16 => ?_) (fun c_16 => ?_)
      · have hf := hf.trans (if_pos c_16)
        refine lv_iconst (v := 0) hx hb dX11_stream_202 (by decide) ?_
        exact J_203 v13_184 v15_184 v17_184 v19_184 0 μ_184 hf _ _ ls hM (lv_sub hl [2, 3, 4, 5] rfl)
      · have hf := hf.trans (if_neg c_16)
        refine lv_iconst (v := 1) hx hb dX11_stream_198 (by decide) ?_
        refine lv_goto (tgt := 203) hx hb dX11_stream_199 (by decide) ?_
        exact J_203 v13_184 v15_184 v17_184 v19_184 1 μ_184 hf _ _ ls hM (lv_sub hl [2, 3, 4, 5] rfl)
  have J_145 : ∀ (v3_145 : Int64) (v5_145 : Int64) (v9_145 : Int64) (v11_145 : Int64) (v13_145 : Int64) (t0_145 : Int64) (μ_145 : MS), (f_X11_stream μ p1 p2) = f_X11_stream_145 μ p1 p2 v3_145 v5_145 v9_145 v11_145 v13_145 t0_145 μ_145 → ∀ (H : Heap) (locs : List Loc) (ls : Array Slot), HM D a mo μ_145 s.heap H locs → lv_has ls 22 [(3, .long v3_145), (5, .long v5_145), (9, .long v9_145), (11, .long v11_145), (13, .long v13_145)] → W p l e R s m args below meth c H locs 0 0 Q (F0 m 145 ls [.long t0_145]) := by
    intro v3_145 v5_145 v9_145 v11_145 v13_145 t0_145 μ_145 hf H locs ls hM hl
    refine lv_lstore (lv' := [(15, .long t0_145), (3, .long v3_145), (5, .long v5_145), (9, .long v9_145), (11, .long v11_145), (13, .long v13_145)]) hx hb dX11_stream_145 hl (by decide) rfl (fun ls hl => ?_)
    refine lv_lload_n hx hb dX11_stream_147 rfl (lv_at hl 1 rfl) ?_
    refine lv_lload hx hb dX11_stream_148 (lv_at hl 4 rfl) ?_
    refine lv_lmul hx hb dX11_stream_150 ?_
    refine lv_lload hx hb dX11_stream_151 (lv_at hl 2 rfl) ?_
    refine lv_lload hx hb dX11_stream_153 (lv_at hl 3 rfl) ?_
    refine lv_lmul hx hb dX11_stream_155 ?_
    refine lv_lsub hx hb dX11_stream_156 ?_
    refine lv_lstore (lv' := [(17, .long ((v3_145 * v11_145) - (v5_145 * v9_145))), (15, .long t0_145), (3, .long v3_145), (5, .long v5_145), (9, .long v9_145), (11, .long v11_145), (13, .long v13_145)]) hx hb dX11_stream_157 hl (by decide) rfl (fun ls hl => ?_)
    refine lv_lload_n hx hb dX11_stream_159 rfl (lv_at hl 2 rfl) ?_
    refine lv_lload hx hb dX11_stream_160 (lv_at hl 4 rfl) ?_
    refine lv_lmul hx hb dX11_stream_162 ?_
    refine lv_lload hx hb dX11_stream_163 (lv_at hl 3 rfl) ?_
    refine lv_lload hx hb dX11_stream_165 (lv_at hl 5 rfl) ?_
    refine lv_lmul hx hb dX11_stream_167 ?_
    refine lv_ladd hx hb dX11_stream_168 ?_
    refine lv_lstore (lv' := [(19, .long ((v3_145 * v9_145) + (v5_145 * v11_145))), (17, .long ((v3_145 * v11_145) - (v5_145 * v9_145))), (15, .long t0_145), (3, .long v3_145), (5, .long v5_145), (9, .long v9_145), (11, .long v11_145), (13, .long v13_145)]) hx hb dX11_stream_169 hl (by decide) rfl (fun ls hl => ?_)
    refine lv_lload_n hx hb dX11_stream_171 rfl (lv_at hl 3 rfl) ?_
    refine lv_lconst (v := 0) hx hb dX11_stream_172 (by decide) ?_
    refine W.lcmp hx hb dX11_stream_173 ?_
    refine lv_if_ne (tgt := 184) hx hb dX11_stream_174 (by decide) (fun c_9 => ?_) (fun c_9 => ?_)
    · have hf := hf.trans (if_neg c_9)
      exact J_184 v9_145 v11_145 v13_145 t0_145 ((v3_145 * v11_145) - (v5_145 * v9_145)) ((v3_145 * v9_145) + (v5_145 * v11_145)) μ_145 hf _ _ ls hM (lv_sub hl [5, 6, 7, 2, 1, 0] rfl)
    · have hf := hf.trans (if_pos c_9)
      refine lv_lload hx hb dX11_stream_177 (lv_at hl 4 rfl) ?_
      refine lv_lconst (v := 0) hx hb dX11_stream_179 (by decide) ?_
      refine W.lcmp hx hb dX11_stream_180 ?_
      refine lv_if_eq (tgt := 202) hx hb dX11_stream_181 (by decide) (fun c_17 => ?_) (fun c_17 => ?_)
      · have hf := hf.trans (if_pos c_17)
        refine lv_iconst (v := 0) hx hb dX11_stream_202 (by decide) ?_
        exact J_203 v13_145 t0_145 ((v3_145 * v11_145) - (v5_145 * v9_145)) ((v3_145 * v9_145) + (v5_145 * v11_145)) 0 μ_145 hf _ _ ls hM (lv_sub hl [7, 2, 1, 0] rfl)
      · have hf := hf.trans (if_neg c_17)
        exact J_184 v9_145 v11_145 v13_145 t0_145 ((v3_145 * v11_145) - (v5_145 * v9_145)) ((v3_145 * v9_145) + (v5_145 * v11_145)) μ_145 hf _ _ ls hM (lv_sub hl [5, 6, 7, 2, 1, 0] rfl)
  have J_116 : ∀ (v3_116 : Int64) (v5_116 : Int64) (v7_116 : Int64) (v9_116 : Int64) (v11_116 : Int64) (t0_116 : Int64) (μ_116 : MS), (f_X11_stream μ p1 p2) = f_X11_stream_116 μ p1 p2 v3_116 v5_116 v7_116 v9_116 v11_116 t0_116 μ_116 → ∀ (H : Heap) (locs : List Loc) (ls : Array Slot), HM D a mo μ_116 s.heap H locs → lv_has ls 22 [(0, .ref mo), (3, .long v3_116), (5, .long v5_116), (7, .long v7_116), (9, .long v9_116), (11, .long v11_116)] → W p l e R s m args below meth c H locs 0 0 Q (F0 m 116 ls [.long t0_116]) := by
    intro v3_116 v5_116 v7_116 v9_116 v11_116 t0_116 μ_116 hf H locs ls hM hl
    refine lv_lstore (lv' := [(13, .long t0_116), (0, .ref mo), (3, .long v3_116), (5, .long v5_116), (7, .long v7_116), (9, .long v9_116), (11, .long v11_116)]) hx hb dX11_stream_116 hl (by decide) rfl (fun ls hl => ?_)
    refine lv_lload hx hb dX11_stream_118 (lv_at hl 4 rfl) ?_
    refine lv_aload_n hx hb dX11_stream_120 rfl (lv_at hl 1 rfl) ?_
    refine mg_speed C hM dX11_stream_121 ?_
    refine W.lcmp hx hb dX11_stream_124 ?_
    refine lv_if_le (tgt := 138) hx hb dX11_stream_125 (by decide) (fun c_8 => ?_) (fun c_8 => ?_)
    · have hf := hf.trans (if_pos c_8)
      refine lv_aload_n hx hb dX11_stream_138 rfl (lv_at hl 1 rfl) ?_
      refine mg_speed C hM dX11_stream_139 ?_
      refine lv_lload hx hb dX11_stream_142 (lv_at hl 4 rfl) ?_
      refine lv_lsub hx hb dX11_stream_144 ?_
      exact J_145 v3_116 v5_116 v9_116 v11_116 t0_116 ((ml μ_116 31 0) - v7_116) μ_116 hf _ _ ls hM (lv_sub hl [2, 3, 5, 6, 0] rfl)
    · have hf := hf.trans (if_neg c_8)
      refine lv_lload hx hb dX11_stream_128 (lv_at hl 4 rfl) ?_
      refine lv_aload_n hx hb dX11_stream_130 rfl (lv_at hl 1 rfl) ?_
      refine mg_speed C hM dX11_stream_131 ?_
      refine lv_lsub hx hb dX11_stream_134 ?_
      refine lv_goto (tgt := 145) hx hb dX11_stream_135 (by decide) ?_
      exact J_145 v3_116 v5_116 v9_116 v11_116 t0_116 (v7_116 - (ml μ_116 31 0)) μ_116 hf _ _ ls hM (lv_sub hl [2, 3, 5, 6, 0] rfl)
  have J_75 : ∀ (v3_75 : Int64) (v5_75 : Int64) (v7_75 : Int64) (μ_75 : MS), (f_X11_stream μ p1 p2) = f_X11_stream_75 μ p1 p2 v3_75 v5_75 v7_75 μ_75 → ∀ (H : Heap) (locs : List Loc) (ls : Array Slot), HM D a mo μ_75 s.heap H locs → lv_has ls 22 [(0, .ref mo), (3, .long v3_75), (5, .long v5_75), (7, .long v7_75)] → W p l e R s m args below meth c H locs 0 0 Q (F0 m 75 ls []) := by
    intro v3_75 v5_75 v7_75 μ_75 hf H locs ls hM hl
    refine lv_aload_n hx hb dX11_stream_75 rfl (lv_at hl 0 rfl) ?_
    refine mg_toX C hM dX11_stream_76 ?_
    refine lv_aload_n hx hb dX11_stream_79 rfl (lv_at hl 0 rfl) ?_
    refine mg_fromX C hM dX11_stream_80 ?_
    refine lv_lsub hx hb dX11_stream_83 ?_
    refine lv_lstore (lv' := [(9, .long ((ml μ_75 29 0) - (ml μ_75 27 0))), (0, .ref mo), (3, .long v3_75), (5, .long v5_75), (7, .long v7_75)]) hx hb dX11_stream_84 hl (by decide) rfl (fun ls hl => ?_)
    refine lv_aload_n hx hb dX11_stream_86 rfl (lv_at hl 1 rfl) ?_
    refine mg_toY C hM dX11_stream_87 ?_
    refine lv_aload_n hx hb dX11_stream_90 rfl (lv_at hl 1 rfl) ?_
    refine mg_fromY C hM dX11_stream_91 ?_
    refine lv_lsub hx hb dX11_stream_94 ?_
    refine lv_lstore (lv' := [(11, .long ((ml μ_75 30 0) - (ml μ_75 28 0))), (9, .long ((ml μ_75 29 0) - (ml μ_75 27 0))), (0, .ref mo), (3, .long v3_75), (5, .long v5_75), (7, .long v7_75)]) hx hb dX11_stream_95 hl (by decide) rfl (fun ls hl => ?_)
    refine lv_lload hx hb dX11_stream_97 (lv_at hl 5 rfl) ?_
    refine lv_aload_n hx hb dX11_stream_99 rfl (lv_at hl 2 rfl) ?_
    refine mg_speed C hM dX11_stream_100 ?_
    refine W.lcmp hx hb dX11_stream_103 ?_
    refine lv_if_le (tgt := 112) hx hb dX11_stream_104 (by decide) (fun c_7 => ?_) (fun c_7 => ?_)
    · have hf := hf.trans (if_pos c_7)
      refine lv_aload_n hx hb dX11_stream_112 rfl (lv_at hl 2 rfl) ?_
      refine mg_speed C hM dX11_stream_113 ?_
      exact J_116 v3_75 v5_75 v7_75 ((ml μ_75 29 0) - (ml μ_75 27 0)) ((ml μ_75 30 0) - (ml μ_75 28 0)) (ml μ_75 31 0) μ_75 hf _ _ ls hM (lv_sub hl [2, 3, 4, 5, 1, 0] rfl)
    · have hf := hf.trans (if_neg c_7)
      refine lv_lload hx hb dX11_stream_107 (lv_at hl 5 rfl) ?_
      refine lv_goto (tgt := 116) hx hb dX11_stream_109 (by decide) ?_
      exact J_116 v3_75 v5_75 v7_75 ((ml μ_75 29 0) - (ml μ_75 27 0)) ((ml μ_75 30 0) - (ml μ_75 28 0)) v7_75 μ_75 hf _ _ ls hM (lv_sub hl [2, 3, 4, 5, 1, 0] rfl)
  have J_43 : ∀ (μ_43 : MS), (f_X11_stream μ p1 p2) = f_X11_stream_43 μ p1 p2 μ_43 → of_X11_stream_43 μ p1 p2 μ_43 → ∀ (H : Heap) (locs : List Loc) (ls : Array Slot), HM D a mo μ_43 s.heap H locs → lv_has ls 22 [(0, .ref mo), (2, .int p2)] → W p l e R s m args below meth c H locs 0 0 Q (F0 m 43 ls []) := by
    intro μ_43 hf hok H locs ls hM hl
    refine lv_aload_n hx hb dX11_stream_43 rfl (lv_at hl 0 rfl) ?_
    refine mg_toX C hM dX11_stream_44 ?_
    refine lv_aload_n hx hb dX11_stream_47 rfl (lv_at hl 0 rfl) ?_
    refine mg_fromX C hM dX11_stream_48 ?_
    refine lv_lsub hx hb dX11_stream_51 ?_
    refine lv_lstore_n (lv' := [(3, .long ((ml μ_43 29 0) - (ml μ_43 27 0))), (0, .ref mo), (2, .int p2)]) hx hb dX11_stream_52 rfl hl (by decide) rfl (fun ls hl => ?_)
    refine lv_aload_n hx hb dX11_stream_53 rfl (lv_at hl 1 rfl) ?_
    refine mg_toY C hM dX11_stream_54 ?_
    refine lv_aload_n hx hb dX11_stream_57 rfl (lv_at hl 1 rfl) ?_
    refine mg_fromY C hM dX11_stream_58 ?_
    refine lv_lsub hx hb dX11_stream_61 ?_
    refine lv_lstore (lv' := [(5, .long ((ml μ_43 30 0) - (ml μ_43 28 0))), (3, .long ((ml μ_43 29 0) - (ml μ_43 27 0))), (0, .ref mo), (2, .int p2)]) hx hb dX11_stream_62 hl (by decide) rfl (fun ls hl => ?_)
    refine lv_aload_n hx hb dX11_stream_64 rfl (lv_at hl 2 rfl) ?_
    refine mg_speed C hM dX11_stream_65 ?_
    refine lv_lstore (lv' := [(7, .long (ml μ_43 31 0)), (5, .long ((ml μ_43 30 0) - (ml μ_43 28 0))), (3, .long ((ml μ_43 29 0) - (ml μ_43 27 0))), (0, .ref mo), (2, .int p2)]) hx hb dX11_stream_68 hl (by decide) rfl (fun ls hl => ?_)
    refine lv_aload_n hx hb dX11_stream_70 rfl (lv_at hl 3 rfl) ?_
    refine lv_iload_n hx hb dX11_stream_71 rfl (lv_at hl 4 rfl) ?_
    have ok_6 := And.left hok
    have hok := And.right hok
    refine cc_M (av := [.int p2]) C hM (k_X11_measures l D a mo μ_43 p2 ok_6) cw_X11_269 (okR_of hRf hRl (Nat.le_of_ble_eq_true rfl) (Nat.le_of_ble_eq_true rfl)) rfl rfl hl.1 (Nat.le_of_ble_eq_true rfl) (Nat.zero_le _) (Nat.zero_le _) dX11_stream_72 (fun H locs hM => ?_)
    exact J_75 ((ml μ_43 29 0) - (ml μ_43 27 0)) ((ml μ_43 30 0) - (ml μ_43 28 0)) (ml μ_43 31 0) (f_X11_measures μ_43 p2) hf _ _ ls hM (lv_sub hl [3, 2, 1, 0] rfl)
  have J_26 : ∀ (t0_26 : Int32) (μ_26 : MS), (f_X11_stream μ p1 p2) = f_X11_stream_26 μ p1 p2 t0_26 μ_26 → of_X11_stream_26 μ p1 p2 t0_26 μ_26 → ∀ (H : Heap) (locs : List Loc) (ls : Array Slot), HM D a mo μ_26 s.heap H locs → lv_has ls 22 [(0, .ref mo), (1, .int p1), (2, .int p2)] → W p l e R s m args below meth c H locs 0 0 Q (F0 m 26 ls [.int t0_26, .ref mo]) := by
    intro t0_26 μ_26 hf hok H locs ls hM hl
    refine mp_thrown C hM dX11_stream_26 (fun H locs hM => ?_)
    refine lv_aload_n hx hb dX11_stream_29 rfl (lv_at hl 0 rfl) ?_
    refine mg_thrown C hM dX11_stream_30 ?_
    refine lv_if_le (tgt := 38) hx hb dX11_stream_33 (by decide) (fun c_4 => ?_) (fun c_4 => ?_)
    · have hf := hf.trans (if_pos c_4)
      have hok := oif_pos hok c_4
      refine lv_aload_n hx hb dX11_stream_38 rfl (lv_at hl 0 rfl) ?_
      refine lv_iload_n hx hb dX11_stream_39 rfl (lv_at hl 1 rfl) ?_
      have ok_5 := And.left hok
      have hok := And.right hok
      refine cc_M (av := [.int p1]) C hM (k_X11_measures l D a mo (mI μ_26 0 0 t0_26) p1 ok_5) cw_X11_269 (okR_of hRf hRl (Nat.le_of_ble_eq_true rfl) (Nat.le_of_ble_eq_true rfl)) rfl rfl hl.1 (Nat.le_of_ble_eq_true rfl) (Nat.zero_le _) (Nat.zero_le _) dX11_stream_40 (fun H locs hM => ?_)
      exact J_43 (f_X11_measures (mI μ_26 0 0 t0_26) p1) hf hok _ _ ls hM (lv_sub hl [0, 2] rfl)
    · have hf := hf.trans (if_neg c_4)
      have hok := oif_neg hok c_4
      refine lv_iconst (v := 0) hx hb dX11_stream_36 (by decide) ?_
      exact ret _ _ _ _ _ _ hM dX11_stream_37 (by unfold zb; decide) hf
  have J_4 : ∀ (μ_4 : MS), (f_X11_stream μ p1 p2) = f_X11_stream_4 μ p1 p2 μ_4 → of_X11_stream_4 μ p1 p2 μ_4 → ∀ (H : Heap) (locs : List Loc) (ls : Array Slot), HM D a mo μ_4 s.heap H locs → lv_has ls 22 [(0, .ref mo), (1, .int p1), (2, .int p2)] → W p l e R s m args below meth c H locs 0 0 Q (F0 m 4 ls []) := by
    intro μ_4 hf hok H locs ls hM hl
    refine lv_aload_n hx hb dX11_stream_4 rfl (lv_at hl 0 rfl) ?_
    refine lv_aload_n hx hb dX11_stream_5 rfl (lv_at hl 0 rfl) ?_
    refine lv_iload_n hx hb dX11_stream_6 rfl (lv_at hl 1 rfl) ?_
    have ok_2 := And.left hok
    have hok := And.right hok
    refine cc_R (av := [.int p1]) C hM (k_X11_isFireball l D a mo μ_4 p1 ok_2) cw_X11_236 (okR_of hRf hRl (Nat.le_of_ble_eq_true rfl) (Nat.le_of_ble_eq_true rfl)) rfl rfl hl.1 (Nat.le_of_ble_eq_true rfl) (Nat.zero_le _) (Nat.zero_le _) dX11_stream_7 ?_
    refine lv_if_eq (tgt := 25) hx hb dX11_stream_10 (by decide) (fun c_3 => ?_) (fun c_3 => ?_)
    · have hf := hf.trans (if_pos c_3)
      have hok := oif_pos hok c_3
      refine lv_iconst (v := 1) hx hb dX11_stream_25 (by decide) ?_
      exact J_26 1 μ_4 hf hok _ _ ls hM (lv_sub hl [0, 1, 2] rfl)
    · have hf := hf.trans (if_neg c_3)
      have hok := oif_neg hok c_3
      refine lv_aload_n hx hb dX11_stream_13 rfl (lv_at hl 0 rfl) ?_
      refine lv_iload_n hx hb dX11_stream_14 rfl (lv_at hl 2 rfl) ?_
      have ok_18 := And.left hok
      have hok := And.right hok
      refine cc_R (av := [.int p2]) C hM (k_X11_isFireball l D a mo μ_4 p2 ok_18) cw_X11_236 (okR_of hRf hRl (Nat.le_of_ble_eq_true rfl) (Nat.le_of_ble_eq_true rfl)) rfl rfl hl.1 (Nat.le_of_ble_eq_true rfl) (Nat.zero_le _) (Nat.zero_le _) dX11_stream_15 ?_
      refine lv_if_eq (tgt := 25) hx hb dX11_stream_18 (by decide) (fun c_19 => ?_) (fun c_19 => ?_)
      · have hf := hf.trans (if_pos c_19)
        have hok := oif_pos hok c_19
        refine lv_iconst (v := 1) hx hb dX11_stream_25 (by decide) ?_
        exact J_26 1 μ_4 hf hok _ _ ls hM (lv_sub hl [0, 1, 2] rfl)
      · have hf := hf.trans (if_neg c_19)
        have hok := oif_neg hok c_19
        refine lv_iconst (v := 0) hx hb dX11_stream_21 (by decide) ?_
        refine lv_goto (tgt := 26) hx hb dX11_stream_22 (by decide) ?_
        exact J_26 0 μ_4 hf hok _ _ ls hM (lv_sub hl [0, 1, 2] rfl)
  refine lv_aload_n hx hb dX11_stream_0 rfl (lv_at hl 0 rfl) ?_
  have ok_1 := And.left hok
  have hok := And.right hok
  refine cc_M (av := []) C hM (k_X11_spreads l D a mo μ ok_1) cw_X11_229 (okR_of hRf hRl (Nat.le_of_ble_eq_true rfl) (Nat.le_of_ble_eq_true rfl)) rfl rfl hl.1 (Nat.le_of_ble_eq_true rfl) (Nat.zero_le _) (Nat.zero_le _) dX11_stream_1 (fun H locs hM => ?_)
  exact J_4 (f_X11_spreads μ) hf hok _ _ ls hM (lv_sub hl [0, 1, 2] rfl)
def f_X11_flux_l69_128 (p1 : Int32) (p2 : Int32) (p3 : Int32) (w5_69 : Int32) (w6_69 : Int32) (μw_69 : MS) (v5_128 : Int32) (v6_128 : Int32) (μ_128 : MS) : Bool × (Int32 × Int32 × MS) := (true, (v5_128, (v6_128 + 1), μ_128))
def f_X11_flux_l69_125 (p1 : Int32) (p2 : Int32) (p3 : Int32) (w5_69 : Int32) (w6_69 : Int32) (μw_69 : MS) (v6_125 : Int32) (t0_125 : Int32) (t1_125 : Int32) (μ_125 : MS) : Bool × (Int32 × Int32 × MS) := (f_X11_flux_l69_128 p1 p2 p3 w5_69 w6_69 μw_69 (t1_125 + t0_125) v6_125 μ_125)
def f_X11_flux_l69_108 (p1 : Int32) (p2 : Int32) (p3 : Int32) (w5_69 : Int32) (w6_69 : Int32) (μw_69 : MS) (v5_108 : Int32) (v6_108 : Int32) (μ_108 : MS) : Bool × (Int32 × Int32 × MS) := (if (lg_cmp (ml μ_108 33 0) p3.toInt64) < 0 then (f_X11_flux_l69_125 p1 p2 p3 w5_69 w6_69 μw_69 v6_108 0 v5_108 μ_108) else (f_X11_flux_l69_125 p1 p2 p3 w5_69 w6_69 μw_69 v6_108 1 v5_108 μ_108))
def b_X11_flux_69 (p1 : Int32) (p2 : Int32) (p3 : Int32) (w5_69 : Int32) (w6_69 : Int32) (μw_69 : MS) : Bool × (Int32 × Int32 × MS) := (if (mi μw_69 13 0) ≤ w6_69 then (false, (w5_69, w6_69, μw_69)) else (if (f_X11_isFireball μw_69 w6_69) = 0 then (f_X11_flux_l69_128 p1 p2 p3 w5_69 w6_69 μw_69 w5_69 w6_69 μw_69) else (if (f_X11_isIn (mi μw_69 15 (ix w6_69)) p1 p2) = 0 then (f_X11_flux_l69_128 p1 p2 p3 w5_69 w6_69 μw_69 w5_69 w6_69 μw_69) else (f_X11_flux_l69_108 p1 p2 p3 w5_69 w6_69 μw_69 w5_69 w6_69 (f_X11_measures μw_69 w6_69)))))
def ob_X11_flux_69 (p1 : Int32) (p2 : Int32) (p3 : Int32) (w5_69 : Int32) (w6_69 : Int32) (μw_69 : MS) : Prop := (oif ((mi μw_69 13 0) ≤ w6_69) True (of_X11_isFireball μw_69 w6_69 ∧ (oif ((f_X11_isFireball μw_69 w6_69) = 0) True (vp_in w6_69 60 ∧ (oif ((f_X11_isIn (mi μw_69 15 (ix w6_69)) p1 p2) = 0) True (of_X11_measures μw_69 w6_69 ∧ True))))))
def s_X11_flux_69 (p1 : Int32) (p2 : Int32) (p3 : Int32) (v : Int32 × Int32 × MS) : Bool × (Int32 × Int32 × MS) := b_X11_flux_69 p1 p2 p3 v.1 v.2.1 v.2.2
def os_X11_flux_69 (p1 : Int32) (p2 : Int32) (p3 : Int32) (v : Int32 × Int32 × MS) : Prop := ob_X11_flux_69 p1 p2 p3 v.1 v.2.1 v.2.2
def f_X11_flux_l149_180 (p1 : Int32) (p2 : Int32) (v5_149 : Int32) (μ_149 : MS) (w6_149 : Int32) (w7_149 : Int32) (v7_180 : Int32) (t0_180 : Int32) (t1_180 : Int32) : Bool × (Int32 × Int32) := (true, ((t1_180 - t0_180), (v7_180 + 1)))
def b_X11_flux_149 (p1 : Int32) (p2 : Int32) (v5_149 : Int32) (μ_149 : MS) (w6_149 : Int32) (w7_149 : Int32) : Bool × (Int32 × Int32) := (if (mi μ_149 5 0) ≤ w7_149 then (false, (w6_149, w7_149)) else (if (f_X11_isIn (mi μ_149 7 (ix w7_149)) p1 p2) = 0 then (f_X11_flux_l149_180 p1 p2 v5_149 μ_149 w6_149 w7_149 w7_149 0 w6_149) else (f_X11_flux_l149_180 p1 p2 v5_149 μ_149 w6_149 w7_149 w7_149 1 w6_149)))
def ob_X11_flux_149 (p1 : Int32) (p2 : Int32) (v5_149 : Int32) (μ_149 : MS) (w6_149 : Int32) (w7_149 : Int32) : Prop := (oif ((mi μ_149 5 0) ≤ w7_149) True (vp_in w7_149 50 ∧ True))
def s_X11_flux_149 (p1 : Int32) (p2 : Int32) (v5_149 : Int32) (μ_149 : MS) (v : Int32 × Int32) : Bool × (Int32 × Int32) := b_X11_flux_149 p1 p2 v5_149 μ_149 v.1 v.2
def os_X11_flux_149 (p1 : Int32) (p2 : Int32) (v5_149 : Int32) (μ_149 : MS) (v : Int32 × Int32) : Prop := ob_X11_flux_149 p1 p2 v5_149 μ_149 v.1 v.2
def f_X11_flux_189 (μ : MS) (p1 : Int32) (p2 : Int32) (p3 : Int32) (v5_189 : Int32) (v6_189 : Int32) (μ_189 : MS) : Int32 × MS := (if v6_189 = 0 then (0, μ_189) else (((v5_189 * 1000) / v6_189), μ_189))
def of_X11_flux_189 (μ : MS) (p1 : Int32) (p2 : Int32) (p3 : Int32) (v5_189 : Int32) (v6_189 : Int32) (μ_189 : MS) : Prop := (oif (v6_189 = 0) True (¬ v6_189 = 0 ∧ True))
def f_X11_flux_149 (μ : MS) (p1 : Int32) (p2 : Int32) (p3 : Int32) (v5_149 : Int32) (v6_149 : Int32) (v7_149 : Int32) (μ_149 : MS) : Int32 × MS := (f_X11_flux_189 μ p1 p2 p3 v5_149 ((itr (s_X11_flux_149 p1 p2 v5_149 μ_149) FU (v6_149, v7_149)).1) μ_149)
def of_X11_flux_149 (μ : MS) (p1 : Int32) (p2 : Int32) (p3 : Int32) (v5_149 : Int32) (v6_149 : Int32) (v7_149 : Int32) (μ_149 : MS) : Prop := (ito (s_X11_flux_149 p1 p2 v5_149 μ_149) (os_X11_flux_149 p1 p2 v5_149 μ_149) FU (v6_149, v7_149) ∧ (of_X11_flux_189 μ p1 p2 p3 v5_149 ((itr (s_X11_flux_149 p1 p2 v5_149 μ_149) FU (v6_149, v7_149)).1) μ_149))
def f_X11_flux_134 (μ : MS) (p1 : Int32) (p2 : Int32) (p3 : Int32) (v5_134 : Int32) (μ_134 : MS) : Int32 × MS := (f_X11_flux_149 μ p1 p2 p3 v5_134 ((mi μ_134 1 0) * ((p2 - p1) + 1)) 0 μ_134)
def of_X11_flux_134 (μ : MS) (p1 : Int32) (p2 : Int32) (p3 : Int32) (v5_134 : Int32) (μ_134 : MS) : Prop := (of_X11_flux_149 μ p1 p2 p3 v5_134 ((mi μ_134 1 0) * ((p2 - p1) + 1)) 0 μ_134)
def f_X11_flux_69 (μ : MS) (p1 : Int32) (p2 : Int32) (p3 : Int32) (v5_69 : Int32) (v6_69 : Int32) (μ_69 : MS) : Int32 × MS := (f_X11_flux_134 μ p1 p2 p3 ((itr (s_X11_flux_69 p1 p2 p3) FU (v5_69, v6_69, μ_69)).1) ((itr (s_X11_flux_69 p1 p2 p3) FU (v5_69, v6_69, μ_69)).2.2))
def of_X11_flux_69 (μ : MS) (p1 : Int32) (p2 : Int32) (p3 : Int32) (v5_69 : Int32) (v6_69 : Int32) (μ_69 : MS) : Prop := (ito (s_X11_flux_69 p1 p2 p3) (os_X11_flux_69 p1 p2 p3) FU (v5_69, v6_69, μ_69) ∧ (of_X11_flux_134 μ p1 p2 p3 ((itr (s_X11_flux_69 p1 p2 p3) FU (v5_69, v6_69, μ_69)).1) ((itr (s_X11_flux_69 p1 p2 p3) FU (v5_69, v6_69, μ_69)).2.2)))
def f_X11_flux_63 (μ : MS) (p1 : Int32) (p2 : Int32) (p3 : Int32) (μ_63 : MS) : Int32 × MS := (f_X11_flux_69 μ p1 p2 p3 0 0 μ_63)
def of_X11_flux_63 (μ : MS) (p1 : Int32) (p2 : Int32) (p3 : Int32) (μ_63 : MS) : Prop := (of_X11_flux_69 μ p1 p2 p3 0 0 μ_63)
def f_X11_flux_47 (μ : MS) (p1 : Int32) (p2 : Int32) (p3 : Int32) (t0_47 : Int32) : Int32 × MS := (if t0_47 ≤ 0 then (f_X11_flux_63 μ p1 p2 p3 (f_X11_spreads (mI μ 0 0 t0_47))) else (0, (mI μ 0 0 t0_47)))
def of_X11_flux_47 (μ : MS) (p1 : Int32) (p2 : Int32) (p3 : Int32) (t0_47 : Int32) : Prop := (oif (t0_47 ≤ 0) (of_X11_spreads (mI μ 0 0 t0_47) ∧ (of_X11_flux_63 μ p1 p2 p3 (f_X11_spreads (mI μ 0 0 t0_47)))) True)
def f_X11_flux_34 (μ : MS) (p1 : Int32) (p2 : Int32) (p3 : Int32) (t0_34 : Int32) : Int32 × MS := (if t0_34 = 0 then (f_X11_flux_47 μ p1 p2 p3 1) else (f_X11_flux_47 μ p1 p2 p3 0))
def of_X11_flux_34 (μ : MS) (p1 : Int32) (p2 : Int32) (p3 : Int32) (t0_34 : Int32) : Prop := (oif (t0_34 = 0) (of_X11_flux_47 μ p1 p2 p3 1) (of_X11_flux_47 μ p1 p2 p3 0))
def f_X11_flux (μ : MS) (p1 : Int32) (p2 : Int32) (p3 : Int32) : Int32 × MS := (if (f_X11_isNight p1) = 0 then (f_X11_flux_34 μ p1 p2 p3 0) else (if (f_X11_isIn p2 p1 3649) = 0 then (f_X11_flux_34 μ p1 p2 p3 0) else (if (f_X11_isIn p3 0 100000) = 0 then (f_X11_flux_34 μ p1 p2 p3 0) else (f_X11_flux_34 μ p1 p2 p3 1))))
def of_X11_flux (μ : MS) (p1 : Int32) (p2 : Int32) (p3 : Int32) : Prop := (of_X11_isNight p1 ∧ (oif ((f_X11_isNight p1) = 0) (of_X11_flux_34 μ p1 p2 p3 0) (oif ((f_X11_isIn p2 p1 3649) = 0) (of_X11_flux_34 μ p1 p2 p3 0) (oif ((f_X11_isIn p3 0 100000) = 0) (of_X11_flux_34 μ p1 p2 p3 0) (of_X11_flux_34 μ p1 p2 p3 1)))))
set_option maxHeartbeats 4000000 in
set_option maxRecDepth 100000 in
theorem k_X11_flux (l : Launch) (D : va_G) (a : Nat → ClassId) (mo : Nat) (μ : MS) (p1 : Int32) (p2 : Int32) (p3 : Int32) (hok : of_X11_flux μ p1 p2 p3) : KM l D a mo yX11_flux cX11_flux 8 ((some .int)) 5 134 [.int p1, .int p2, .int p3] μ (some (.int (f_X11_flux μ p1 p2 p3).1)) (f_X11_flux μ p1 p2 p3).2 := by
  refine goMi (by decide +kernel) (Nat.le_of_ble_eq_true rfl) ?_
  intro p e s m args below meth c ls R Q hRf hRl C hl hB
  obtain ⟨hM, ret⟩ := hB
  have hl : lv_has ls 8 [(0, .ref mo), (1, .int p1), (2, .int p2), (3, .int p3)] := hl
  have hx := C.1.1
  have hb := C.1.2.1
  have hts := C.1.2.2.2.2
  have hown := C.1.2.2.2.1
  have hf : (f_X11_flux μ p1 p2 p3) = (f_X11_flux μ p1 p2 p3) := rfl
  have J_189 : ∀ (v5_189 : Int32) (v6_189 : Int32) (μ_189 : MS), (f_X11_flux μ p1 p2 p3) = f_X11_flux_189 μ p1 p2 p3 v5_189 v6_189 μ_189 → of_X11_flux_189 μ p1 p2 p3 v5_189 v6_189 μ_189 → ∀ (H : Heap) (locs : List Loc) (ls : Array Slot), HM D a mo μ_189 s.heap H locs → lv_has ls 8 [(5, .int v5_189), (6, .int v6_189)] → W p l e R s m args below meth c H locs 0 0 Q (F0 m 189 ls []) := by
    intro v5_189 v6_189 μ_189 hf hok H locs ls hM hl
    refine lv_iload hx hb dX11_flux_189 (lv_at hl 1 rfl) ?_
    refine lv_if_ne (tgt := 198) hx hb dX11_flux_191 (by decide) (fun c_16 => ?_) (fun c_16 => ?_)
    · have hf := hf.trans (if_neg c_16)
      have hok := oif_neg hok c_16
      refine lv_iload hx hb dX11_flux_198 (lv_at hl 0 rfl) ?_
      refine lv_sipush (v := 1000) hx hb dX11_flux_200 (by decide) ?_
      refine lv_imul hx hb dX11_flux_203 ?_
      refine lv_iload hx hb dX11_flux_204 (lv_at hl 1 rfl) ?_
      have ok_17 := And.left hok
      have hok := And.right hok
      refine lv_idiv hx hb dX11_flux_206 ok_17 ?_
      exact ret _ _ _ _ _ _ hM dX11_flux_207 hf
    · have hf := hf.trans (if_pos c_16)
      have hok := oif_pos hok c_16
      refine lv_iconst (v := 0) hx hb dX11_flux_194 (by decide) ?_
      refine lv_goto (tgt := 207) hx hb dX11_flux_195 (by decide) ?_
      exact ret _ _ _ _ _ _ hM dX11_flux_207 hf
  have J_149 : ∀ (v5_149 : Int32) (v6_149 : Int32) (v7_149 : Int32) (μ_149 : MS), (f_X11_flux μ p1 p2 p3) = f_X11_flux_149 μ p1 p2 p3 v5_149 v6_149 v7_149 μ_149 → of_X11_flux_149 μ p1 p2 p3 v5_149 v6_149 v7_149 μ_149 → ∀ (H : Heap) (locs : List Loc) (ls : Array Slot), HM D a mo μ_149 s.heap H locs → lv_has ls 8 [(0, .ref mo), (1, .int p1), (2, .int p2), (5, .int v5_149), (6, .int v6_149), (7, .int v7_149)] → W p l e R s m args below meth c H locs 0 0 Q (F0 m 149 ls []) := by
    intro v5_149 v6_149 v7_149 μ_149 hf hok H locs ls hM hl
    refine itr_W (f := (s_X11_flux_149 p1 p2 v5_149 μ_149)) (o := (os_X11_flux_149 p1 p2 v5_149 μ_149)) (fun (v : Int32 × Int32) => ∀ (ls : Array Slot), lv_has ls 8 [(0, .ref mo), (1, .int p1), (2, .int p2), (5, .int v5_149), (6, .int v.1), (7, .int v.2)] → W p l e R s m args below meth c H locs 0 0 Q (F0 m 149 ls [])) (fun (v : Int32 × Int32) => ∀ (ls : Array Slot), lv_has ls 8 [(5, .int v5_149), (6, .int v.1)] → W p l e R s m args below meth c H locs 0 0 Q (F0 m 189 ls [])) ?_ FU (v6_149, v7_149) (And.left hok) ?_ ls (lv_sub hl [0, 1, 2, 3, 4, 5] rfl)
    · intro v hov kc ke
      obtain ⟨w6_149, w7_149⟩ := v
      have hok : ob_X11_flux_149 p1 p2 v5_149 μ_149 w6_149 w7_149 := hov
      change ∀ v', (b_X11_flux_149 p1 p2 v5_149 μ_149 w6_149 w7_149) = (true, v') → _ at kc
      change ∀ v', (b_X11_flux_149 p1 p2 v5_149 μ_149 w6_149 w7_149) = (false, v') → _ at ke
      have hf : (b_X11_flux_149 p1 p2 v5_149 μ_149 w6_149 w7_149) = (b_X11_flux_149 p1 p2 v5_149 μ_149 w6_149 w7_149) := rfl
      intro ls hl
      have J_l149_180 : ∀ (v7_180 : Int32) (t0_180 : Int32) (t1_180 : Int32), (b_X11_flux_149 p1 p2 v5_149 μ_149 w6_149 w7_149) = f_X11_flux_l149_180 p1 p2 v5_149 μ_149 w6_149 w7_149 v7_180 t0_180 t1_180 → ∀ (ls : Array Slot), lv_has ls 8 [(0, .ref mo), (1, .int p1), (2, .int p2), (5, .int v5_149), (7, .int v7_180)] → W p l e R s m args below meth c H locs 0 0 Q (F0 m 180 ls [.int t0_180, .int t1_180]) := by
        intro v7_180 t0_180 t1_180 hf ls hl
        refine lv_isub hx hb dX11_flux_180 ?_
        refine lv_istore (lv' := [(6, .int (t1_180 - t0_180)), (0, .ref mo), (1, .int p1), (2, .int p2), (5, .int v5_149), (7, .int v7_180)]) hx hb dX11_flux_181 hl (by decide) rfl (fun ls hl => ?_)
        refine lv_iinc (v := (v7_180 + 1)) (lv' := [(7, .int (v7_180 + 1)), (6, .int (t1_180 - t0_180)), (0, .ref mo), (1, .int p1), (2, .int p2), (5, .int v5_149)]) hx hb dX11_flux_183 hl (k := 5) rfl rfl (by decide) rfl (fun ls hl => ?_)
        refine lv_goto (tgt := 149) hx hb dX11_flux_186 (by decide) ?_
        exact kc ((t1_180 - t0_180), (v7_180 + 1)) hf ls (lv_sub hl [2, 3, 4, 5, 1, 0] rfl)
      refine lv_iload hx hb dX11_flux_149 (lv_at hl 5 rfl) ?_
      refine lv_aload_n hx hb dX11_flux_151 rfl (lv_at hl 0 rfl) ?_
      refine mg_clouds C hM dX11_flux_152 ?_
      refine lv_icmp_ge (tgt := 189) hx hb dX11_flux_155 (by decide) (fun c_13 => ?_) (fun c_13 => ?_)
      · have hf := hf.trans (if_pos c_13)
        have hok := oif_pos hok c_13
        exact ke (w6_149, w7_149) hf ls (lv_sub hl [3, 4] rfl)
      · have hf := hf.trans (if_neg c_13)
        have hok := oif_neg hok c_13
        refine lv_iload hx hb dX11_flux_158 (lv_at hl 4 rfl) ?_
        refine lv_aload_n hx hb dX11_flux_160 rfl (lv_at hl 0 rfl) ?_
        refine mg_cloudNights C hM dX11_flux_161 ?_
        refine lv_iload hx hb dX11_flux_164 (lv_at hl 5 rfl) ?_
        have ok_14 := And.left hok
        have hok := And.right hok
        refine ma_cloudNights C hM ok_14 dX11_flux_166 ?_
        refine lv_iload_n hx hb dX11_flux_167 rfl (lv_at hl 1 rfl) ?_
        refine lv_iload_n hx hb dX11_flux_168 rfl (lv_at hl 2 rfl) ?_
        refine cc_S (av := [.int (mi μ_149 7 (ix w7_149)), .int p1, .int p2]) C (k_X11_isIn l D a (mi μ_149 7 (ix w7_149)) p1 p2) cw_X11_158 (okR_of hRf hRl (Nat.le_of_ble_eq_true rfl) (Nat.le_of_ble_eq_true rfl)) rfl rfl hl.1 (Nat.le_of_ble_eq_true rfl) (Nat.zero_le _) (Nat.zero_le _) dX11_flux_169 ?_
        refine lv_if_eq (tgt := 179) hx hb dX11_flux_172 (by decide) (fun c_15 => ?_) (fun c_15 => ?_)
        · have hf := hf.trans (if_pos c_15)
          refine lv_iconst (v := 0) hx hb dX11_flux_179 (by decide) ?_
          exact J_l149_180 w7_149 0 w6_149 hf ls (lv_sub hl [0, 1, 2, 3, 5] rfl)
        · have hf := hf.trans (if_neg c_15)
          refine lv_iconst (v := 1) hx hb dX11_flux_175 (by decide) ?_
          refine lv_goto (tgt := 180) hx hb dX11_flux_176 (by decide) ?_
          exact J_l149_180 w7_149 1 w6_149 hf ls (lv_sub hl [0, 1, 2, 3, 5] rfl)
    · have hok := And.right hok
      intro ls hl
      exact J_189 v5_149 ((itr (s_X11_flux_149 p1 p2 v5_149 μ_149) FU (v6_149, v7_149)).1) μ_149 hf hok _ _ ls hM (lv_sub hl [0, 1] rfl)
  have J_134 : ∀ (v5_134 : Int32) (μ_134 : MS), (f_X11_flux μ p1 p2 p3) = f_X11_flux_134 μ p1 p2 p3 v5_134 μ_134 → of_X11_flux_134 μ p1 p2 p3 v5_134 μ_134 → ∀ (H : Heap) (locs : List Loc) (ls : Array Slot), HM D a mo μ_134 s.heap H locs → lv_has ls 8 [(0, .ref mo), (1, .int p1), (2, .int p2), (5, .int v5_134)] → W p l e R s m args below meth c H locs 0 0 Q (F0 m 134 ls []) := by
    intro v5_134 μ_134 hf hok H locs ls hM hl
    refine lv_aload_n hx hb dX11_flux_134 rfl (lv_at hl 0 rfl) ?_
    refine mg_cameras C hM dX11_flux_135 ?_
    refine lv_iload_n hx hb dX11_flux_138 rfl (lv_at hl 2 rfl) ?_
    refine lv_iload_n hx hb dX11_flux_139 rfl (lv_at hl 1 rfl) ?_
    refine lv_isub hx hb dX11_flux_140 ?_
    refine lv_iconst (v := 1) hx hb dX11_flux_141 (by decide) ?_
    refine lv_iadd hx hb dX11_flux_142 ?_
    refine lv_imul hx hb dX11_flux_143 ?_
    refine lv_istore (lv' := [(6, .int ((mi μ_134 1 0) * ((p2 - p1) + 1))), (0, .ref mo), (1, .int p1), (2, .int p2), (5, .int v5_134)]) hx hb dX11_flux_144 hl (by decide) rfl (fun ls hl => ?_)
    refine lv_iconst (v := 0) hx hb dX11_flux_146 (by decide) ?_
    refine lv_istore (lv' := [(7, .int 0), (6, .int ((mi μ_134 1 0) * ((p2 - p1) + 1))), (0, .ref mo), (1, .int p1), (2, .int p2), (5, .int v5_134)]) hx hb dX11_flux_147 hl (by decide) rfl (fun ls hl => ?_)
    exact J_149 v5_134 ((mi μ_134 1 0) * ((p2 - p1) + 1)) 0 μ_134 hf hok _ _ ls hM (lv_sub hl [2, 3, 4, 5, 1, 0] rfl)
  have J_69 : ∀ (v5_69 : Int32) (v6_69 : Int32) (μ_69 : MS), (f_X11_flux μ p1 p2 p3) = f_X11_flux_69 μ p1 p2 p3 v5_69 v6_69 μ_69 → of_X11_flux_69 μ p1 p2 p3 v5_69 v6_69 μ_69 → ∀ (H : Heap) (locs : List Loc) (ls : Array Slot), HM D a mo μ_69 s.heap H locs → lv_has ls 8 [(0, .ref mo), (1, .int p1), (2, .int p2), (3, .int p3), (5, .int v5_69), (6, .int v6_69)] → W p l e R s m args below meth c H locs 0 0 Q (F0 m 69 ls []) := by
    intro v5_69 v6_69 μ_69 hf hok H locs ls hM hl
    refine itr_W (f := (s_X11_flux_69 p1 p2 p3)) (o := (os_X11_flux_69 p1 p2 p3)) (fun (v : Int32 × Int32 × MS) => ∀ (H : Heap) (locs : List Loc) (ls : Array Slot), HM D a mo v.2.2 s.heap H locs → lv_has ls 8 [(0, .ref mo), (1, .int p1), (2, .int p2), (3, .int p3), (5, .int v.1), (6, .int v.2.1)] → W p l e R s m args below meth c H locs 0 0 Q (F0 m 69 ls [])) (fun (v : Int32 × Int32 × MS) => ∀ (H : Heap) (locs : List Loc) (ls : Array Slot), HM D a mo v.2.2 s.heap H locs → lv_has ls 8 [(0, .ref mo), (1, .int p1), (2, .int p2), (5, .int v.1)] → W p l e R s m args below meth c H locs 0 0 Q (F0 m 134 ls [])) ?_ FU (v5_69, v6_69, μ_69) (And.left hok) ?_ _ _ ls hM (lv_sub hl [0, 1, 2, 3, 4, 5] rfl)
    · intro v hov kc ke
      obtain ⟨w5_69, w6_69, μw_69⟩ := v
      have hok : ob_X11_flux_69 p1 p2 p3 w5_69 w6_69 μw_69 := hov
      change ∀ v', (b_X11_flux_69 p1 p2 p3 w5_69 w6_69 μw_69) = (true, v') → _ at kc
      change ∀ v', (b_X11_flux_69 p1 p2 p3 w5_69 w6_69 μw_69) = (false, v') → _ at ke
      have hf : (b_X11_flux_69 p1 p2 p3 w5_69 w6_69 μw_69) = (b_X11_flux_69 p1 p2 p3 w5_69 w6_69 μw_69) := rfl
      intro H locs ls hM hl
      have J_l69_128 : ∀ (v5_128 : Int32) (v6_128 : Int32) (μ_128 : MS), (b_X11_flux_69 p1 p2 p3 w5_69 w6_69 μw_69) = f_X11_flux_l69_128 p1 p2 p3 w5_69 w6_69 μw_69 v5_128 v6_128 μ_128 → ∀ (H : Heap) (locs : List Loc) (ls : Array Slot), HM D a mo μ_128 s.heap H locs → lv_has ls 8 [(0, .ref mo), (1, .int p1), (2, .int p2), (3, .int p3), (5, .int v5_128), (6, .int v6_128)] → W p l e R s m args below meth c H locs 0 0 Q (F0 m 128 ls []) := by
        intro v5_128 v6_128 μ_128 hf H locs ls hM hl
        refine lv_iinc (v := (v6_128 + 1)) (lv' := [(6, .int (v6_128 + 1)), (0, .ref mo), (1, .int p1), (2, .int p2), (3, .int p3), (5, .int v5_128)]) hx hb dX11_flux_128 hl (k := 5) rfl rfl (by decide) rfl (fun ls hl => ?_)
        refine lv_goto (tgt := 69) hx hb dX11_flux_131 (by decide) ?_
        exact kc (v5_128, (v6_128 + 1), μ_128) hf H locs ls hM (lv_sub hl [1, 2, 3, 4, 5, 0] rfl)
      have J_l69_125 : ∀ (v6_125 : Int32) (t0_125 : Int32) (t1_125 : Int32) (μ_125 : MS), (b_X11_flux_69 p1 p2 p3 w5_69 w6_69 μw_69) = f_X11_flux_l69_125 p1 p2 p3 w5_69 w6_69 μw_69 v6_125 t0_125 t1_125 μ_125 → ∀ (H : Heap) (locs : List Loc) (ls : Array Slot), HM D a mo μ_125 s.heap H locs → lv_has ls 8 [(0, .ref mo), (1, .int p1), (2, .int p2), (3, .int p3), (6, .int v6_125)] → W p l e R s m args below meth c H locs 0 0 Q (F0 m 125 ls [.int t0_125, .int t1_125]) := by
        intro v6_125 t0_125 t1_125 μ_125 hf H locs ls hM hl
        refine lv_iadd hx hb dX11_flux_125 ?_
        refine lv_istore (lv' := [(5, .int (t1_125 + t0_125)), (0, .ref mo), (1, .int p1), (2, .int p2), (3, .int p3), (6, .int v6_125)]) hx hb dX11_flux_126 hl (by decide) rfl (fun ls hl => ?_)
        exact J_l69_128 (t1_125 + t0_125) v6_125 μ_125 hf _ _ ls hM (lv_sub hl [1, 2, 3, 4, 0, 5] rfl)
      have J_l69_108 : ∀ (v5_108 : Int32) (v6_108 : Int32) (μ_108 : MS), (b_X11_flux_69 p1 p2 p3 w5_69 w6_69 μw_69) = f_X11_flux_l69_108 p1 p2 p3 w5_69 w6_69 μw_69 v5_108 v6_108 μ_108 → ∀ (H : Heap) (locs : List Loc) (ls : Array Slot), HM D a mo μ_108 s.heap H locs → lv_has ls 8 [(0, .ref mo), (1, .int p1), (2, .int p2), (3, .int p3), (5, .int v5_108), (6, .int v6_108)] → W p l e R s m args below meth c H locs 0 0 Q (F0 m 108 ls []) := by
        intro v5_108 v6_108 μ_108 hf H locs ls hM hl
        refine lv_iload hx hb dX11_flux_108 (lv_at hl 4 rfl) ?_
        refine lv_aload_n hx hb dX11_flux_110 rfl (lv_at hl 0 rfl) ?_
        refine mg_byLight C hM dX11_flux_111 ?_
        refine lv_iload_n hx hb dX11_flux_114 rfl (lv_at hl 3 rfl) ?_
        refine lv_i2l (v := p3.toInt64) hx hb dX11_flux_115 rfl ?_
        refine W.lcmp hx hb dX11_flux_116 ?_
        refine lv_if_lt (tgt := 124) hx hb dX11_flux_117 (by decide) (fun c_12 => ?_) (fun c_12 => ?_)
        · have hf := hf.trans (if_pos c_12)
          refine lv_iconst (v := 0) hx hb dX11_flux_124 (by decide) ?_
          exact J_l69_125 v6_108 0 v5_108 μ_108 hf _ _ ls hM (lv_sub hl [0, 1, 2, 3, 5] rfl)
        · have hf := hf.trans (if_neg c_12)
          refine lv_iconst (v := 1) hx hb dX11_flux_120 (by decide) ?_
          refine lv_goto (tgt := 125) hx hb dX11_flux_121 (by decide) ?_
          exact J_l69_125 v6_108 1 v5_108 μ_108 hf _ _ ls hM (lv_sub hl [0, 1, 2, 3, 5] rfl)
      refine lv_iload hx hb dX11_flux_69 (lv_at hl 5 rfl) ?_
      refine lv_aload_n hx hb dX11_flux_71 rfl (lv_at hl 0 rfl) ?_
      refine mg_sightings C hM dX11_flux_72 ?_
      refine lv_icmp_ge (tgt := 134) hx hb dX11_flux_75 (by decide) (fun c_6 => ?_) (fun c_6 => ?_)
      · have hf := hf.trans (if_pos c_6)
        have hok := oif_pos hok c_6
        exact ke (w5_69, w6_69, μw_69) hf H locs ls hM (lv_sub hl [0, 1, 2, 4] rfl)
      · have hf := hf.trans (if_neg c_6)
        have hok := oif_neg hok c_6
        refine lv_aload_n hx hb dX11_flux_78 rfl (lv_at hl 0 rfl) ?_
        refine lv_iload hx hb dX11_flux_79 (lv_at hl 5 rfl) ?_
        have ok_7 := And.left hok
        have hok := And.right hok
        refine cc_R (av := [.int w6_69]) C hM (k_X11_isFireball l D a mo μw_69 w6_69 ok_7) cw_X11_236 (okR_of hRf hRl (Nat.le_of_ble_eq_true rfl) (Nat.le_of_ble_eq_true rfl)) rfl rfl hl.1 (Nat.le_of_ble_eq_true rfl) (Nat.zero_le _) (Nat.zero_le _) dX11_flux_81 ?_
        refine lv_if_eq (tgt := 128) hx hb dX11_flux_84 (by decide) (fun c_8 => ?_) (fun c_8 => ?_)
        · have hf := hf.trans (if_pos c_8)
          have hok := oif_pos hok c_8
          exact J_l69_128 w5_69 w6_69 μw_69 hf _ _ ls hM (lv_sub hl [0, 1, 2, 3, 4, 5] rfl)
        · have hf := hf.trans (if_neg c_8)
          have hok := oif_neg hok c_8
          refine lv_aload_n hx hb dX11_flux_87 rfl (lv_at hl 0 rfl) ?_
          refine mg_nights C hM dX11_flux_88 ?_
          refine lv_iload hx hb dX11_flux_91 (lv_at hl 5 rfl) ?_
          have ok_9 := And.left hok
          have hok := And.right hok
          refine ma_nights C hM ok_9 dX11_flux_93 ?_
          refine lv_iload_n hx hb dX11_flux_94 rfl (lv_at hl 1 rfl) ?_
          refine lv_iload_n hx hb dX11_flux_95 rfl (lv_at hl 2 rfl) ?_
          refine cc_S (av := [.int (mi μw_69 15 (ix w6_69)), .int p1, .int p2]) C (k_X11_isIn l D a (mi μw_69 15 (ix w6_69)) p1 p2) cw_X11_158 (okR_of hRf hRl (Nat.le_of_ble_eq_true rfl) (Nat.le_of_ble_eq_true rfl)) rfl rfl hl.1 (Nat.le_of_ble_eq_true rfl) (Nat.zero_le _) (Nat.zero_le _) dX11_flux_96 ?_
          refine lv_if_eq (tgt := 128) hx hb dX11_flux_99 (by decide) (fun c_10 => ?_) (fun c_10 => ?_)
          · have hf := hf.trans (if_pos c_10)
            have hok := oif_pos hok c_10
            exact J_l69_128 w5_69 w6_69 μw_69 hf _ _ ls hM (lv_sub hl [0, 1, 2, 3, 4, 5] rfl)
          · have hf := hf.trans (if_neg c_10)
            have hok := oif_neg hok c_10
            refine lv_aload_n hx hb dX11_flux_102 rfl (lv_at hl 0 rfl) ?_
            refine lv_iload hx hb dX11_flux_103 (lv_at hl 5 rfl) ?_
            have ok_11 := And.left hok
            have hok := And.right hok
            refine cc_M (av := [.int w6_69]) C hM (k_X11_measures l D a mo μw_69 w6_69 ok_11) cw_X11_269 (okR_of hRf hRl (Nat.le_of_ble_eq_true rfl) (Nat.le_of_ble_eq_true rfl)) rfl rfl hl.1 (Nat.le_of_ble_eq_true rfl) (Nat.zero_le _) (Nat.zero_le _) dX11_flux_105 (fun H locs hM => ?_)
            exact J_l69_108 w5_69 w6_69 (f_X11_measures μw_69 w6_69) hf _ _ ls hM (lv_sub hl [0, 1, 2, 3, 4, 5] rfl)
    · have hok := And.right hok
      intro H locs ls hM hl
      exact J_134 ((itr (s_X11_flux_69 p1 p2 p3) FU (v5_69, v6_69, μ_69)).1) ((itr (s_X11_flux_69 p1 p2 p3) FU (v5_69, v6_69, μ_69)).2.2) hf hok _ _ ls hM (lv_sub hl [0, 1, 2, 3] rfl)
  have J_63 : ∀ (μ_63 : MS), (f_X11_flux μ p1 p2 p3) = f_X11_flux_63 μ p1 p2 p3 μ_63 → of_X11_flux_63 μ p1 p2 p3 μ_63 → ∀ (H : Heap) (locs : List Loc) (ls : Array Slot), HM D a mo μ_63 s.heap H locs → lv_has ls 8 [(0, .ref mo), (1, .int p1), (2, .int p2), (3, .int p3)] → W p l e R s m args below meth c H locs 0 0 Q (F0 m 63 ls []) := by
    intro μ_63 hf hok H locs ls hM hl
    refine lv_iconst (v := 0) hx hb dX11_flux_63 (by decide) ?_
    refine lv_istore (lv' := [(5, .int 0), (0, .ref mo), (1, .int p1), (2, .int p2), (3, .int p3)]) hx hb dX11_flux_64 hl (by decide) rfl (fun ls hl => ?_)
    refine lv_iconst (v := 0) hx hb dX11_flux_66 (by decide) ?_
    refine lv_istore (lv' := [(6, .int 0), (5, .int 0), (0, .ref mo), (1, .int p1), (2, .int p2), (3, .int p3)]) hx hb dX11_flux_67 hl (by decide) rfl (fun ls hl => ?_)
    exact J_69 0 0 μ_63 hf hok _ _ ls hM (lv_sub hl [2, 3, 4, 5, 1, 0] rfl)
  have J_47 : ∀ (t0_47 : Int32), (f_X11_flux μ p1 p2 p3) = f_X11_flux_47 μ p1 p2 p3 t0_47 → of_X11_flux_47 μ p1 p2 p3 t0_47 → ∀ (ls : Array Slot), lv_has ls 8 [(0, .ref mo), (1, .int p1), (2, .int p2), (3, .int p3)] → W p l e R s m args below meth c s.heap [] 0 0 Q (F0 m 47 ls [.int t0_47, .ref mo]) := by
    intro t0_47 hf hok ls hl
    refine mp_thrown C hM dX11_flux_47 (fun H locs hM => ?_)
    refine lv_aload_n hx hb dX11_flux_50 rfl (lv_at hl 0 rfl) ?_
    refine mg_thrown C hM dX11_flux_51 ?_
    refine lv_if_le (tgt := 59) hx hb dX11_flux_54 (by decide) (fun c_4 => ?_) (fun c_4 => ?_)
    · have hf := hf.trans (if_pos c_4)
      have hok := oif_pos hok c_4
      refine lv_aload_n hx hb dX11_flux_59 rfl (lv_at hl 0 rfl) ?_
      have ok_5 := And.left hok
      have hok := And.right hok
      refine cc_M (av := []) C hM (k_X11_spreads l D a mo (mI μ 0 0 t0_47) ok_5) cw_X11_229 (okR_of hRf hRl (Nat.le_of_ble_eq_true rfl) (Nat.le_of_ble_eq_true rfl)) rfl rfl hl.1 (Nat.le_of_ble_eq_true rfl) (Nat.zero_le _) (Nat.zero_le _) dX11_flux_60 (fun H locs hM => ?_)
      exact J_63 (f_X11_spreads (mI μ 0 0 t0_47)) hf hok _ _ ls hM (lv_sub hl [0, 1, 2, 3] rfl)
    · have hf := hf.trans (if_neg c_4)
      have hok := oif_neg hok c_4
      refine lv_iconst (v := 0) hx hb dX11_flux_57 (by decide) ?_
      exact ret _ _ _ _ _ _ hM dX11_flux_58 hf
  have J_34 : ∀ (t0_34 : Int32), (f_X11_flux μ p1 p2 p3) = f_X11_flux_34 μ p1 p2 p3 t0_34 → of_X11_flux_34 μ p1 p2 p3 t0_34 → ∀ (ls : Array Slot), lv_has ls 8 [(0, .ref mo), (1, .int p1), (2, .int p2), (3, .int p3)] → W p l e R s m args below meth c s.heap [] 0 0 Q (F0 m 34 ls [.int t0_34]) := by
    intro t0_34 hf hok ls hl
    refine lv_istore (lv' := [(4, .int t0_34), (0, .ref mo), (1, .int p1), (2, .int p2), (3, .int p3)]) hx hb dX11_flux_34 hl (by decide) rfl (fun ls hl => ?_)
    refine lv_aload_n hx hb dX11_flux_36 rfl (lv_at hl 1 rfl) ?_
    refine lv_iload hx hb dX11_flux_37 (lv_at hl 0 rfl) ?_
    refine lv_if_eq (tgt := 46) hx hb dX11_flux_39 (by decide) (fun c_3 => ?_) (fun c_3 => ?_)
    · have hf := hf.trans (if_pos c_3)
      have hok := oif_pos hok c_3
      refine lv_iconst (v := 1) hx hb dX11_flux_46 (by decide) ?_
      exact J_47 1 hf hok ls (lv_sub hl [1, 2, 3, 4] rfl)
    · have hf := hf.trans (if_neg c_3)
      have hok := oif_neg hok c_3
      refine lv_iconst (v := 0) hx hb dX11_flux_42 (by decide) ?_
      refine lv_goto (tgt := 47) hx hb dX11_flux_43 (by decide) ?_
      exact J_47 0 hf hok ls (lv_sub hl [1, 2, 3, 4] rfl)
  refine lv_iload_n hx hb dX11_flux_0 rfl (lv_at hl 1 rfl) ?_
  have ok_1 := And.left hok
  have hok := And.right hok
  refine cc_S (av := [.int p1]) C (k_X11_isNight l D a p1 ok_1) cw_X11_179 (okR_of hRf hRl (Nat.le_of_ble_eq_true rfl) (Nat.le_of_ble_eq_true rfl)) rfl rfl hl.1 (Nat.le_of_ble_eq_true rfl) (Nat.zero_le _) (Nat.zero_le _) dX11_flux_1 ?_
  refine lv_if_eq (tgt := 33) hx hb dX11_flux_4 (by decide) (fun c_2 => ?_) (fun c_2 => ?_)
  · have hf := hf.trans (if_pos c_2)
    have hok := oif_pos hok c_2
    refine lv_iconst (v := 0) hx hb dX11_flux_33 (by decide) ?_
    exact J_34 0 hf hok ls (lv_sub hl [0, 1, 2, 3] rfl)
  · have hf := hf.trans (if_neg c_2)
    have hok := oif_neg hok c_2
    refine lv_iload_n hx hb dX11_flux_7 rfl (lv_at hl 2 rfl) ?_
    refine lv_iload_n hx hb dX11_flux_8 rfl (lv_at hl 1 rfl) ?_
    refine lv_sipush (v := 3649) hx hb dX11_flux_9 (by decide) ?_
    refine cc_S (av := [.int p2, .int p1, .int 3649]) C (k_X11_isIn l D a p2 p1 3649) cw_X11_158 (okR_of hRf hRl (Nat.le_of_ble_eq_true rfl) (Nat.le_of_ble_eq_true rfl)) rfl rfl hl.1 (Nat.le_of_ble_eq_true rfl) (Nat.zero_le _) (Nat.zero_le _) dX11_flux_12 ?_
    refine lv_if_eq (tgt := 33) hx hb dX11_flux_15 (by decide) (fun c_18 => ?_) (fun c_18 => ?_)
    · have hf := hf.trans (if_pos c_18)
      have hok := oif_pos hok c_18
      refine lv_iconst (v := 0) hx hb dX11_flux_33 (by decide) ?_
      exact J_34 0 hf hok ls (lv_sub hl [0, 1, 2, 3] rfl)
    · have hf := hf.trans (if_neg c_18)
      have hok := oif_neg hok c_18
      refine lv_iload_n hx hb dX11_flux_18 rfl (lv_at hl 3 rfl) ?_
      refine lv_iconst (v := 0) hx hb dX11_flux_19 (by decide) ?_
      refine lv_ldcw (v := 100000) hx hb hown (hts _ q_1494) dX11_flux_20 ?_
      refine cc_S (av := [.int p3, .int 0, .int 100000]) C (k_X11_isIn l D a p3 0 100000) cw_X11_158 (okR_of hRf hRl (Nat.le_of_ble_eq_true rfl) (Nat.le_of_ble_eq_true rfl)) rfl rfl hl.1 (Nat.le_of_ble_eq_true rfl) (Nat.zero_le _) (Nat.zero_le _) dX11_flux_23 ?_
      refine lv_if_eq (tgt := 33) hx hb dX11_flux_26 (by decide) (fun c_19 => ?_) (fun c_19 => ?_)
      · have hf := hf.trans (if_pos c_19)
        have hok := oif_pos hok c_19
        refine lv_iconst (v := 0) hx hb dX11_flux_33 (by decide) ?_
        exact J_34 0 hf hok ls (lv_sub hl [0, 1, 2, 3] rfl)
      · have hf := hf.trans (if_neg c_19)
        have hok := oif_neg hok c_19
        refine lv_iconst (v := 1) hx hb dX11_flux_29 (by decide) ?_
        refine lv_goto (tgt := 34) hx hb dX11_flux_30 (by decide) ?_
        exact J_34 1 hf hok ls (lv_sub hl [0, 1, 2, 3] rfl)
def f_X11_windOf_l4_27 (p1 : Int32) (μ : MS) (w2_4 : Int32) (w3_4 : Int32) (v3_27 : Int32) (t0_27 : Int32) : Bool × (Int32 × Int32) := (true, (t0_27, (v3_27 + 1)))
def b_X11_windOf_4 (p1 : Int32) (μ : MS) (w2_4 : Int32) (w3_4 : Int32) : Bool × (Int32 × Int32) := (if (mi μ 35 0) ≤ w3_4 then (false, (w2_4, w3_4)) else (if (mi μ 36 (ix w3_4)) = p1 then (f_X11_windOf_l4_27 p1 μ w2_4 w3_4 w3_4 w3_4) else (f_X11_windOf_l4_27 p1 μ w2_4 w3_4 w3_4 w2_4)))
def ob_X11_windOf_4 (p1 : Int32) (μ : MS) (w2_4 : Int32) (w3_4 : Int32) : Prop := (oif ((mi μ 35 0) ≤ w3_4) True (vp_in w3_4 50 ∧ True))
def s_X11_windOf_4 (p1 : Int32) (μ : MS) (v : Int32 × Int32) : Bool × (Int32 × Int32) := b_X11_windOf_4 p1 μ v.1 v.2
def os_X11_windOf_4 (p1 : Int32) (μ : MS) (v : Int32 × Int32) : Prop := ob_X11_windOf_4 p1 μ v.1 v.2
def f_X11_windOf_34 (μ : MS) (p1 : Int32) (v2_34 : Int32) : Int32 := v2_34
def f_X11_windOf_4 (μ : MS) (p1 : Int32) (v2_4 : Int32) (v3_4 : Int32) : Int32 := (f_X11_windOf_34 μ p1 ((itr (s_X11_windOf_4 p1 μ) FU (v2_4, v3_4)).1))
def of_X11_windOf_4 (μ : MS) (p1 : Int32) (v2_4 : Int32) (v3_4 : Int32) : Prop := (ito (s_X11_windOf_4 p1 μ) (os_X11_windOf_4 p1 μ) FU (v2_4, v3_4) ∧ True)
def f_X11_windOf (μ : MS) (p1 : Int32) : Int32 := (f_X11_windOf_4 μ p1 (-1) 0)
def of_X11_windOf (μ : MS) (p1 : Int32) : Prop := (of_X11_windOf_4 μ p1 (-1) 0)
set_option maxHeartbeats 4000000 in
set_option maxRecDepth 100000 in
theorem k_X11_windOf (l : Launch) (D : va_G) (a : Nat → ClassId) (mo : Nat) (μ : MS) (p1 : Int32) (hok : of_X11_windOf μ p1) : K0 l yX11_windOf cX11_windOf 4 ((some .int)) 0 0 [.ref mo, .int p1] (BM D a mo μ) (.int (f_X11_windOf μ p1)) := by
  refine go0i (D := D) (a := a) (by decide +kernel) (fun _ h => h.1) (Nat.le_of_ble_eq_true rfl) ?_
  intro p e s m args below meth c ls R Q hRf hRl C hl hB
  obtain ⟨hB, ret⟩ := hB
  have hM : HM D a mo μ s.heap s.heap [] := ⟨hB.2, va_S.rf⟩
  have hl : lv_has ls 4 [(0, .ref mo), (1, .int p1)] := hl
  have hx := C.1.1
  have hb := C.1.2.1
  have hts := C.1.2.2.2.2
  have hown := C.1.2.2.2.1
  have hf : (f_X11_windOf μ p1) = (f_X11_windOf μ p1) := rfl
  have J_34 : ∀ (v2_34 : Int32), (f_X11_windOf μ p1) = f_X11_windOf_34 μ p1 v2_34 → ∀ (ls : Array Slot), lv_has ls 4 [(2, .int v2_34)] → W p l e R s m args below meth c s.heap [] 0 0 Q (F0 m 34 ls []) := by
    intro v2_34 hf ls hl
    refine lv_iload_n hx hb dX11_windOf_34 rfl (lv_at hl 0 rfl) ?_
    exact ret _ _ _ dX11_windOf_35 hf
  have J_4 : ∀ (v2_4 : Int32) (v3_4 : Int32), (f_X11_windOf μ p1) = f_X11_windOf_4 μ p1 v2_4 v3_4 → of_X11_windOf_4 μ p1 v2_4 v3_4 → ∀ (ls : Array Slot), lv_has ls 4 [(0, .ref mo), (1, .int p1), (2, .int v2_4), (3, .int v3_4)] → W p l e R s m args below meth c s.heap [] 0 0 Q (F0 m 4 ls []) := by
    intro v2_4 v3_4 hf hok ls hl
    refine itr_W (f := (s_X11_windOf_4 p1 μ)) (o := (os_X11_windOf_4 p1 μ)) (fun (v : Int32 × Int32) => ∀ (ls : Array Slot), lv_has ls 4 [(0, .ref mo), (1, .int p1), (2, .int v.1), (3, .int v.2)] → W p l e R s m args below meth c s.heap [] 0 0 Q (F0 m 4 ls [])) (fun (v : Int32 × Int32) => ∀ (ls : Array Slot), lv_has ls 4 [(2, .int v.1)] → W p l e R s m args below meth c s.heap [] 0 0 Q (F0 m 34 ls [])) ?_ FU (v2_4, v3_4) (And.left hok) ?_ ls (lv_sub hl [0, 1, 2, 3] rfl)
    · intro v hov kc ke
      obtain ⟨w2_4, w3_4⟩ := v
      have hok : ob_X11_windOf_4 p1 μ w2_4 w3_4 := hov
      change ∀ v', (b_X11_windOf_4 p1 μ w2_4 w3_4) = (true, v') → _ at kc
      change ∀ v', (b_X11_windOf_4 p1 μ w2_4 w3_4) = (false, v') → _ at ke
      have hf : (b_X11_windOf_4 p1 μ w2_4 w3_4) = (b_X11_windOf_4 p1 μ w2_4 w3_4) := rfl
      intro ls hl
      have J_l4_27 : ∀ (v3_27 : Int32) (t0_27 : Int32), (b_X11_windOf_4 p1 μ w2_4 w3_4) = f_X11_windOf_l4_27 p1 μ w2_4 w3_4 v3_27 t0_27 → ∀ (ls : Array Slot), lv_has ls 4 [(0, .ref mo), (1, .int p1), (3, .int v3_27)] → W p l e R s m args below meth c s.heap [] 0 0 Q (F0 m 27 ls [.int t0_27]) := by
        intro v3_27 t0_27 hf ls hl
        refine lv_istore_n (lv' := [(2, .int t0_27), (0, .ref mo), (1, .int p1), (3, .int v3_27)]) hx hb dX11_windOf_27 rfl hl (by decide) rfl (fun ls hl => ?_)
        refine lv_iinc (v := (v3_27 + 1)) (lv' := [(3, .int (v3_27 + 1)), (2, .int t0_27), (0, .ref mo), (1, .int p1)]) hx hb dX11_windOf_28 hl (k := 3) rfl rfl (by decide) rfl (fun ls hl => ?_)
        refine lv_goto (tgt := 4) hx hb dX11_windOf_31 (by decide) ?_
        exact kc (t0_27, (v3_27 + 1)) hf ls (lv_sub hl [2, 3, 1, 0] rfl)
      refine lv_iload_n hx hb dX11_windOf_4 rfl (lv_at hl 3 rfl) ?_
      refine lv_aload_n hx hb dX11_windOf_5 rfl (lv_at hl 0 rfl) ?_
      refine mg_winds C hM dX11_windOf_6 ?_
      refine lv_icmp_ge (tgt := 34) hx hb dX11_windOf_9 (by decide) (fun c_1 => ?_) (fun c_1 => ?_)
      · have hf := hf.trans (if_pos c_1)
        have hok := oif_pos hok c_1
        exact ke (w2_4, w3_4) hf ls (lv_sub hl [2] rfl)
      · have hf := hf.trans (if_neg c_1)
        have hok := oif_neg hok c_1
        refine lv_aload_n hx hb dX11_windOf_12 rfl (lv_at hl 0 rfl) ?_
        refine mg_windNights C hM dX11_windOf_13 ?_
        refine lv_iload_n hx hb dX11_windOf_16 rfl (lv_at hl 3 rfl) ?_
        have ok_2 := And.left hok
        have hok := And.right hok
        refine ma_windNights C hM ok_2 dX11_windOf_17 ?_
        refine lv_iload_n hx hb dX11_windOf_18 rfl (lv_at hl 1 rfl) ?_
        refine lv_icmp_ne (tgt := 26) hx hb dX11_windOf_19 (by decide) (fun c_3 => ?_) (fun c_3 => ?_)
        · have hf := hf.trans (if_neg c_3)
          refine lv_iload_n hx hb dX11_windOf_26 rfl (lv_at hl 2 rfl) ?_
          exact J_l4_27 w3_4 w2_4 hf ls (lv_sub hl [0, 1, 3] rfl)
        · have hf := hf.trans (if_pos c_3)
          refine lv_iload_n hx hb dX11_windOf_22 rfl (lv_at hl 3 rfl) ?_
          refine lv_goto (tgt := 27) hx hb dX11_windOf_23 (by decide) ?_
          exact J_l4_27 w3_4 w3_4 hf ls (lv_sub hl [0, 1, 3] rfl)
    · have hok := And.right hok
      intro ls hl
      exact J_34 ((itr (s_X11_windOf_4 p1 μ) FU (v2_4, v3_4)).1) hf ls (lv_sub hl [0] rfl)
  refine lv_iconst (v := (-1)) hx hb dX11_windOf_0 (by decide) ?_
  refine lv_istore_n (lv' := [(2, .int (-1)), (0, .ref mo), (1, .int p1)]) hx hb dX11_windOf_1 rfl hl (by decide) rfl (fun ls hl => ?_)
  refine lv_iconst (v := 0) hx hb dX11_windOf_2 (by decide) ?_
  refine lv_istore_n (lv' := [(3, .int 0), (2, .int (-1)), (0, .ref mo), (1, .int p1)]) hx hb dX11_windOf_3 rfl hl (by decide) rfl (fun ls hl => ?_)
  exact J_4 (-1) 0 hf hok ls (lv_sub hl [2, 3, 1, 0] rfl)
def f_X11_wind_116 (μ : MS) (p1 : Int32) (p2 : Int32) (p3 : Int32) (v5_116 : Int32) (μ_116 : MS) : MS := (mI (mI μ_116 37 (ix v5_116) p2) 38 (ix v5_116) p3)
def of_X11_wind_116 (μ : MS) (p1 : Int32) (p2 : Int32) (p3 : Int32) (v5_116 : Int32) (μ_116 : MS) : Prop := (vp_in v5_116 50 ∧ (vp_in v5_116 50 ∧ True))
def f_X11_wind_73 (μ : MS) (p1 : Int32) (p2 : Int32) (p3 : Int32) (v5_73 : Int32) (t0_73 : Int32) : MS := (if t0_73 ≤ 0 then (if v5_73 = (-1) then (f_X11_wind_116 μ p1 p2 p3 (mi μ 35 0) (mI (mI (mI μ 0 0 t0_73) 36 (ix (mi μ 35 0)) p1) 35 0 ((mi μ 35 0) + 1))) else (f_X11_wind_116 μ p1 p2 p3 v5_73 (mI μ 0 0 t0_73))) else (mI μ 0 0 t0_73))
def of_X11_wind_73 (μ : MS) (p1 : Int32) (p2 : Int32) (p3 : Int32) (v5_73 : Int32) (t0_73 : Int32) : Prop := (oif (t0_73 ≤ 0) (oif (v5_73 = (-1)) (vp_in (mi μ 35 0) 50 ∧ (of_X11_wind_116 μ p1 p2 p3 (mi μ 35 0) (mI (mI (mI μ 0 0 t0_73) 36 (ix (mi μ 35 0)) p1) 35 0 ((mi μ 35 0) + 1)))) (of_X11_wind_116 μ p1 p2 p3 v5_73 (mI μ 0 0 t0_73))) True)
def f_X11_wind_34 (μ : MS) (p1 : Int32) (p2 : Int32) (p3 : Int32) (t0_34 : Int32) : MS := (if t0_34 = 0 then (f_X11_wind_73 μ p1 p2 p3 (f_X11_windOf μ p1) 1) else (if (f_X11_windOf μ p1) = (-1) then (if (mi μ 35 0) = 50 then (f_X11_wind_73 μ p1 p2 p3 (f_X11_windOf μ p1) 2) else (f_X11_wind_73 μ p1 p2 p3 (f_X11_windOf μ p1) 0)) else (f_X11_wind_73 μ p1 p2 p3 (f_X11_windOf μ p1) 0)))
def of_X11_wind_34 (μ : MS) (p1 : Int32) (p2 : Int32) (p3 : Int32) (t0_34 : Int32) : Prop := (of_X11_windOf μ p1 ∧ (oif (t0_34 = 0) (of_X11_wind_73 μ p1 p2 p3 (f_X11_windOf μ p1) 1) (oif ((f_X11_windOf μ p1) = (-1)) (oif ((mi μ 35 0) = 50) (of_X11_wind_73 μ p1 p2 p3 (f_X11_windOf μ p1) 2) (of_X11_wind_73 μ p1 p2 p3 (f_X11_windOf μ p1) 0)) (of_X11_wind_73 μ p1 p2 p3 (f_X11_windOf μ p1) 0))))
def f_X11_wind (μ : MS) (p1 : Int32) (p2 : Int32) (p3 : Int32) : MS := (if (f_X11_isNight p1) = 0 then (f_X11_wind_34 μ p1 p2 p3 0) else (if (f_X11_isIn p2 (-20) 20) = 0 then (f_X11_wind_34 μ p1 p2 p3 0) else (if (f_X11_isIn p3 (-20) 20) = 0 then (f_X11_wind_34 μ p1 p2 p3 0) else (f_X11_wind_34 μ p1 p2 p3 1))))
def of_X11_wind (μ : MS) (p1 : Int32) (p2 : Int32) (p3 : Int32) : Prop := (of_X11_isNight p1 ∧ (oif ((f_X11_isNight p1) = 0) (of_X11_wind_34 μ p1 p2 p3 0) (oif ((f_X11_isIn p2 (-20) 20) = 0) (of_X11_wind_34 μ p1 p2 p3 0) (oif ((f_X11_isIn p3 (-20) 20) = 0) (of_X11_wind_34 μ p1 p2 p3 0) (of_X11_wind_34 μ p1 p2 p3 1)))))
set_option maxHeartbeats 4000000 in
set_option maxRecDepth 100000 in
theorem k_X11_wind (l : Launch) (D : va_G) (a : Nat → ClassId) (mo : Nat) (μ : MS) (p1 : Int32) (p2 : Int32) (p3 : Int32) (hok : of_X11_wind μ p1 p2 p3) : KM l D a mo yX11_wind cX11_wind 6 none 2 42 [.int p1, .int p2, .int p3] μ none (f_X11_wind μ p1 p2 p3) := by
  refine goMv (by decide +kernel) (Nat.le_of_ble_eq_true rfl) ?_
  intro p e s m args below meth c ls R Q hRf hRl C hl hB
  obtain ⟨hM, ret⟩ := hB
  have hl : lv_has ls 6 [(0, .ref mo), (1, .int p1), (2, .int p2), (3, .int p3)] := hl
  have hx := C.1.1
  have hb := C.1.2.1
  have hts := C.1.2.2.2.2
  have hown := C.1.2.2.2.1
  have hf : (f_X11_wind μ p1 p2 p3) = (f_X11_wind μ p1 p2 p3) := rfl
  have J_116 : ∀ (v5_116 : Int32) (μ_116 : MS), (f_X11_wind μ p1 p2 p3) = f_X11_wind_116 μ p1 p2 p3 v5_116 μ_116 → of_X11_wind_116 μ p1 p2 p3 v5_116 μ_116 → ∀ (H : Heap) (locs : List Loc) (ls : Array Slot), HM D a mo μ_116 s.heap H locs → lv_has ls 6 [(0, .ref mo), (2, .int p2), (3, .int p3), (5, .int v5_116)] → W p l e R s m args below meth c H locs 0 0 Q (F0 m 116 ls []) := by
    intro v5_116 μ_116 hf hok H locs ls hM hl
    refine lv_aload_n hx hb dX11_wind_116 rfl (lv_at hl 0 rfl) ?_
    refine mg_windX C hM dX11_wind_117 ?_
    refine lv_iload hx hb dX11_wind_120 (lv_at hl 3 rfl) ?_
    refine lv_iload_n hx hb dX11_wind_122 rfl (lv_at hl 1 rfl) ?_
    have ok_8 := And.left hok
    have hok := And.right hok
    refine ms_windX C hM ok_8 dX11_wind_123 (fun H locs hM => ?_)
    refine lv_aload_n hx hb dX11_wind_124 rfl (lv_at hl 0 rfl) ?_
    refine mg_windY C hM dX11_wind_125 ?_
    refine lv_iload hx hb dX11_wind_128 (lv_at hl 3 rfl) ?_
    refine lv_iload_n hx hb dX11_wind_130 rfl (lv_at hl 2 rfl) ?_
    have ok_9 := And.left hok
    have hok := And.right hok
    refine ms_windY C hM ok_9 dX11_wind_131 (fun H locs hM => ?_)
    exact ret _ _ _ _ _ hM dX11_wind_132 hf
  have J_73 : ∀ (v5_73 : Int32) (t0_73 : Int32), (f_X11_wind μ p1 p2 p3) = f_X11_wind_73 μ p1 p2 p3 v5_73 t0_73 → of_X11_wind_73 μ p1 p2 p3 v5_73 t0_73 → ∀ (ls : Array Slot), lv_has ls 6 [(0, .ref mo), (1, .int p1), (2, .int p2), (3, .int p3), (5, .int v5_73)] → W p l e R s m args below meth c s.heap [] 0 0 Q (F0 m 73 ls [.int t0_73, .ref mo]) := by
    intro v5_73 t0_73 hf hok ls hl
    refine mp_thrown C hM dX11_wind_73 (fun H locs hM => ?_)
    refine lv_aload_n hx hb dX11_wind_76 rfl (lv_at hl 0 rfl) ?_
    refine mg_thrown C hM dX11_wind_77 ?_
    refine lv_if_le (tgt := 84) hx hb dX11_wind_80 (by decide) (fun c_6 => ?_) (fun c_6 => ?_)
    · have hf := hf.trans (if_pos c_6)
      have hok := oif_pos hok c_6
      refine lv_iload hx hb dX11_wind_84 (lv_at hl 4 rfl) ?_
      refine lv_iconst (v := (-1)) hx hb dX11_wind_86 (by decide) ?_
      refine lv_icmp_ne (tgt := 116) hx hb dX11_wind_87 (by decide) (fun c_7 => ?_) (fun c_7 => ?_)
      · have hf := hf.trans (if_neg c_7)
        have hok := oif_neg hok c_7
        exact J_116 v5_73 (mI μ 0 0 t0_73) hf hok _ _ ls hM (lv_sub hl [0, 2, 3, 4] rfl)
      · have hf := hf.trans (if_pos c_7)
        have hok := oif_pos hok c_7
        refine lv_aload_n hx hb dX11_wind_90 rfl (lv_at hl 0 rfl) ?_
        refine mg_winds C hM dX11_wind_91 ?_
        refine lv_istore (lv' := [(5, .int (mi μ 35 0)), (0, .ref mo), (1, .int p1), (2, .int p2), (3, .int p3)]) hx hb dX11_wind_94 hl (by decide) rfl (fun ls hl => ?_)
        refine lv_aload_n hx hb dX11_wind_96 rfl (lv_at hl 1 rfl) ?_
        refine mg_windNights C hM dX11_wind_97 ?_
        refine lv_aload_n hx hb dX11_wind_100 rfl (lv_at hl 1 rfl) ?_
        refine mg_winds C hM dX11_wind_101 ?_
        refine lv_iload_n hx hb dX11_wind_104 rfl (lv_at hl 2 rfl) ?_
        have ok_10 := And.left hok
        have hok := And.right hok
        refine ms_windNights C hM ok_10 dX11_wind_105 (fun H locs hM => ?_)
        refine lv_aload_n hx hb dX11_wind_106 rfl (lv_at hl 1 rfl) ?_
        refine lv_dup hx hb dX11_wind_107 rfl ?_
        refine mg_winds C hM dX11_wind_108 ?_
        refine lv_iconst (v := 1) hx hb dX11_wind_111 (by decide) ?_
        refine lv_iadd hx hb dX11_wind_112 ?_
        refine mp_winds C hM dX11_wind_113 (fun H locs hM => ?_)
        exact J_116 (mi μ 35 0) (mI (mI (mI μ 0 0 t0_73) 36 (ix (mi μ 35 0)) p1) 35 0 ((mi μ 35 0) + 1)) hf hok _ _ ls hM (lv_sub hl [1, 3, 4, 0] rfl)
    · have hf := hf.trans (if_neg c_6)
      have hok := oif_neg hok c_6
      exact ret _ _ _ _ _ hM dX11_wind_83 hf
  have J_34 : ∀ (t0_34 : Int32), (f_X11_wind μ p1 p2 p3) = f_X11_wind_34 μ p1 p2 p3 t0_34 → of_X11_wind_34 μ p1 p2 p3 t0_34 → ∀ (ls : Array Slot), lv_has ls 6 [(0, .ref mo), (1, .int p1), (2, .int p2), (3, .int p3)] → W p l e R s m args below meth c s.heap [] 0 0 Q (F0 m 34 ls [.int t0_34]) := by
    intro t0_34 hf hok ls hl
    refine lv_istore (lv' := [(4, .int t0_34), (0, .ref mo), (1, .int p1), (2, .int p2), (3, .int p3)]) hx hb dX11_wind_34 hl (by decide) rfl (fun ls hl => ?_)
    refine lv_aload_n hx hb dX11_wind_36 rfl (lv_at hl 1 rfl) ?_
    refine lv_iload_n hx hb dX11_wind_37 rfl (lv_at hl 2 rfl) ?_
    have ok_3 := And.left hok
    have hok := And.right hok
    refine cc_R (av := [.int p1]) C hM (k_X11_windOf l D a mo μ p1 ok_3) cw_X11_279 (okR_of hRf hRl (Nat.le_of_ble_eq_true rfl) (Nat.le_of_ble_eq_true rfl)) rfl rfl hl.1 (Nat.le_of_ble_eq_true rfl) (Nat.zero_le _) (Nat.zero_le _) dX11_wind_38 ?_
    refine lv_istore (lv' := [(5, .int (f_X11_windOf μ p1)), (4, .int t0_34), (0, .ref mo), (1, .int p1), (2, .int p2), (3, .int p3)]) hx hb dX11_wind_41 hl (by decide) rfl (fun ls hl => ?_)
    refine lv_aload_n hx hb dX11_wind_43 rfl (lv_at hl 2 rfl) ?_
    refine lv_iload hx hb dX11_wind_44 (lv_at hl 1 rfl) ?_
    refine lv_if_ne (tgt := 53) hx hb dX11_wind_46 (by decide) (fun c_4 => ?_) (fun c_4 => ?_)
    · have hf := hf.trans (if_neg c_4)
      have hok := oif_neg hok c_4
      refine lv_iload hx hb dX11_wind_53 (lv_at hl 0 rfl) ?_
      refine lv_iconst (v := (-1)) hx hb dX11_wind_55 (by decide) ?_
      refine lv_icmp_ne (tgt := 72) hx hb dX11_wind_56 (by decide) (fun c_5 => ?_) (fun c_5 => ?_)
      · have hf := hf.trans (if_neg c_5)
        have hok := oif_neg hok c_5
        refine lv_iconst (v := 0) hx hb dX11_wind_72 (by decide) ?_
        exact J_73 (f_X11_windOf μ p1) 0 hf hok ls (lv_sub hl [2, 3, 4, 5, 0] rfl)
      · have hf := hf.trans (if_pos c_5)
        have hok := oif_pos hok c_5
        refine lv_aload_n hx hb dX11_wind_59 rfl (lv_at hl 2 rfl) ?_
        refine mg_winds C hM dX11_wind_60 ?_
        refine lv_bipush (v := 50) hx hb dX11_wind_63 (by decide) ?_
        refine lv_icmp_ne (tgt := 72) hx hb dX11_wind_65 (by decide) (fun c_11 => ?_) (fun c_11 => ?_)
        · have hf := hf.trans (if_neg c_11)
          have hok := oif_neg hok c_11
          refine lv_iconst (v := 0) hx hb dX11_wind_72 (by decide) ?_
          exact J_73 (f_X11_windOf μ p1) 0 hf hok ls (lv_sub hl [2, 3, 4, 5, 0] rfl)
        · have hf := hf.trans (if_pos c_11)
          have hok := oif_pos hok c_11
          refine lv_iconst (v := 2) hx hb dX11_wind_68 (by decide) ?_
          refine lv_goto (tgt := 73) hx hb dX11_wind_69 (by decide) ?_
          exact J_73 (f_X11_windOf μ p1) 2 hf hok ls (lv_sub hl [2, 3, 4, 5, 0] rfl)
    · have hf := hf.trans (if_pos c_4)
      have hok := oif_pos hok c_4
      refine lv_iconst (v := 1) hx hb dX11_wind_49 (by decide) ?_
      refine lv_goto (tgt := 73) hx hb dX11_wind_50 (by decide) ?_
      exact J_73 (f_X11_windOf μ p1) 1 hf hok ls (lv_sub hl [2, 3, 4, 5, 0] rfl)
  refine lv_iload_n hx hb dX11_wind_0 rfl (lv_at hl 1 rfl) ?_
  have ok_1 := And.left hok
  have hok := And.right hok
  refine cc_S (av := [.int p1]) C (k_X11_isNight l D a p1 ok_1) cw_X11_179 (okR_of hRf hRl (Nat.le_of_ble_eq_true rfl) (Nat.le_of_ble_eq_true rfl)) rfl rfl hl.1 (Nat.le_of_ble_eq_true rfl) (Nat.zero_le _) (Nat.zero_le _) dX11_wind_1 ?_
  refine lv_if_eq (tgt := 33) hx hb dX11_wind_4 (by decide) (fun c_2 => ?_) (fun c_2 => ?_)
  · have hf := hf.trans (if_pos c_2)
    have hok := oif_pos hok c_2
    refine lv_iconst (v := 0) hx hb dX11_wind_33 (by decide) ?_
    exact J_34 0 hf hok ls (lv_sub hl [0, 1, 2, 3] rfl)
  · have hf := hf.trans (if_neg c_2)
    have hok := oif_neg hok c_2
    refine lv_iload_n hx hb dX11_wind_7 rfl (lv_at hl 2 rfl) ?_
    refine lv_bipush (v := (-20)) hx hb dX11_wind_8 (by decide) ?_
    refine lv_bipush (v := 20) hx hb dX11_wind_10 (by decide) ?_
    refine cc_S (av := [.int p2, .int (-20), .int 20]) C (k_X11_isIn l D a p2 (-20) 20) cw_X11_158 (okR_of hRf hRl (Nat.le_of_ble_eq_true rfl) (Nat.le_of_ble_eq_true rfl)) rfl rfl hl.1 (Nat.le_of_ble_eq_true rfl) (Nat.zero_le _) (Nat.zero_le _) dX11_wind_12 ?_
    refine lv_if_eq (tgt := 33) hx hb dX11_wind_15 (by decide) (fun c_12 => ?_) (fun c_12 => ?_)
    · have hf := hf.trans (if_pos c_12)
      have hok := oif_pos hok c_12
      refine lv_iconst (v := 0) hx hb dX11_wind_33 (by decide) ?_
      exact J_34 0 hf hok ls (lv_sub hl [0, 1, 2, 3] rfl)
    · have hf := hf.trans (if_neg c_12)
      have hok := oif_neg hok c_12
      refine lv_iload_n hx hb dX11_wind_18 rfl (lv_at hl 3 rfl) ?_
      refine lv_bipush (v := (-20)) hx hb dX11_wind_19 (by decide) ?_
      refine lv_bipush (v := 20) hx hb dX11_wind_21 (by decide) ?_
      refine cc_S (av := [.int p3, .int (-20), .int 20]) C (k_X11_isIn l D a p3 (-20) 20) cw_X11_158 (okR_of hRf hRl (Nat.le_of_ble_eq_true rfl) (Nat.le_of_ble_eq_true rfl)) rfl rfl hl.1 (Nat.le_of_ble_eq_true rfl) (Nat.zero_le _) (Nat.zero_le _) dX11_wind_23 ?_
      refine lv_if_eq (tgt := 33) hx hb dX11_wind_26 (by decide) (fun c_13 => ?_) (fun c_13 => ?_)
      · have hf := hf.trans (if_pos c_13)
        have hok := oif_pos hok c_13
        refine lv_iconst (v := 0) hx hb dX11_wind_33 (by decide) ?_
        exact J_34 0 hf hok ls (lv_sub hl [0, 1, 2, 3] rfl)
      · have hf := hf.trans (if_neg c_13)
        have hok := oif_neg hok c_13
        refine lv_iconst (v := 1) hx hb dX11_wind_29 (by decide) ?_
        refine lv_goto (tgt := 34) hx hb dX11_wind_30 (by decide) ?_
        exact J_34 1 hf hok ls (lv_sub hl [0, 1, 2, 3] rfl)
def f_X11_falls_l18_102 (v2_18 : Int32) (w3_18 : Int32) (μw_18 : MS) (v3_102 : Int32) (t0_102 : Int64) (t1_102 : Int64) (t2_102 : Int32) (μ_102 : MS) : Bool × (Int32 × MS) := (true, ((v3_102 + 1), (mL μ_102 45 (ix t2_102) (f_X11_down (t1_102 + t0_102) 100))))
def of_X11_falls_l18_102 (v2_18 : Int32) (w3_18 : Int32) (μw_18 : MS) (v3_102 : Int32) (t0_102 : Int64) (t1_102 : Int64) (t2_102 : Int32) (μ_102 : MS) : Prop := (of_X11_down (t1_102 + t0_102) 100 ∧ (vp_in t2_102 5 ∧ True))
def f_X11_falls_l18_63 (v2_18 : Int32) (w3_18 : Int32) (μw_18 : MS) (v3_63 : Int32) (v4_63 : Int32) (t0_63 : Int64) (t1_63 : Int64) (t2_63 : Int32) (μ_63 : MS) : Bool × (Int32 × MS) := (if v2_18 = (-1) then (f_X11_falls_l18_102 v2_18 w3_18 μw_18 v3_63 0 (ml μ_63 30 0) (v3_63 - 1) (mL μ_63 44 (ix t2_63) (f_X11_down (t1_63 + t0_63) 100))) else (f_X11_falls_l18_102 v2_18 w3_18 μw_18 v3_63 (((mi μ_63 38 (ix v2_18)).toInt64) * v4_63.toInt64) (ml μ_63 30 0) (v3_63 - 1) (mL μ_63 44 (ix t2_63) (f_X11_down (t1_63 + t0_63) 100))))
def of_X11_falls_l18_63 (v2_18 : Int32) (w3_18 : Int32) (μw_18 : MS) (v3_63 : Int32) (v4_63 : Int32) (t0_63 : Int64) (t1_63 : Int64) (t2_63 : Int32) (μ_63 : MS) : Prop := (of_X11_down (t1_63 + t0_63) 100 ∧ (vp_in t2_63 5 ∧ (oif (v2_18 = (-1)) (of_X11_falls_l18_102 v2_18 w3_18 μw_18 v3_63 0 (ml μ_63 30 0) (v3_63 - 1) (mL μ_63 44 (ix t2_63) (f_X11_down (t1_63 + t0_63) 100))) (vp_in v2_18 50 ∧ (of_X11_falls_l18_102 v2_18 w3_18 μw_18 v3_63 (((mi μ_63 38 (ix v2_18)).toInt64) * v4_63.toInt64) (ml μ_63 30 0) (v3_63 - 1) (mL μ_63 44 (ix t2_63) (f_X11_down (t1_63 + t0_63) 100)))))))
def b_X11_falls_18 (v2_18 : Int32) (w3_18 : Int32) (μw_18 : MS) : Bool × (Int32 × MS) := (if 5 < w3_18 then (false, (w3_18, μw_18)) else (if v2_18 = (-1) then (f_X11_falls_l18_63 v2_18 w3_18 μw_18 w3_18 (20 * (6 - w3_18)) 0 (ml μw_18 29 0) (w3_18 - 1) μw_18) else (f_X11_falls_l18_63 v2_18 w3_18 μw_18 w3_18 (20 * (6 - w3_18)) (((mi μw_18 37 (ix v2_18)).toInt64) * ((20 * (6 - w3_18)).toInt64)) (ml μw_18 29 0) (w3_18 - 1) μw_18)))
def ob_X11_falls_18 (v2_18 : Int32) (w3_18 : Int32) (μw_18 : MS) : Prop := (oif (5 < w3_18) True (oif (v2_18 = (-1)) (of_X11_falls_l18_63 v2_18 w3_18 μw_18 w3_18 (20 * (6 - w3_18)) 0 (ml μw_18 29 0) (w3_18 - 1) μw_18) (vp_in v2_18 50 ∧ (of_X11_falls_l18_63 v2_18 w3_18 μw_18 w3_18 (20 * (6 - w3_18)) (((mi μw_18 37 (ix v2_18)).toInt64) * ((20 * (6 - w3_18)).toInt64)) (ml μw_18 29 0) (w3_18 - 1) μw_18))))
def s_X11_falls_18 (v2_18 : Int32) (v : Int32 × MS) : Bool × (Int32 × MS) := b_X11_falls_18 v2_18 v.1 v.2
def os_X11_falls_18 (v2_18 : Int32) (v : Int32 × MS) : Prop := ob_X11_falls_18 v2_18 v.1 v.2
def f_X11_falls_116 (μ : MS) (p1 : Int32) (μ_116 : MS) : MS := μ_116
def f_X11_falls_18 (μ : MS) (p1 : Int32) (v2_18 : Int32) (v3_18 : Int32) (μ_18 : MS) : MS := (f_X11_falls_116 μ p1 ((itr (s_X11_falls_18 v2_18) FU (v3_18, μ_18)).2))
def of_X11_falls_18 (μ : MS) (p1 : Int32) (v2_18 : Int32) (v3_18 : Int32) (μ_18 : MS) : Prop := (ito (s_X11_falls_18 v2_18) (os_X11_falls_18 v2_18) FU (v3_18, μ_18) ∧ True)
def f_X11_falls_5 (μ : MS) (p1 : Int32) (μ_5 : MS) : MS := (f_X11_falls_18 μ p1 (f_X11_windOf μ_5 (mi μ_5 15 (ix p1))) 1 μ_5)
def of_X11_falls_5 (μ : MS) (p1 : Int32) (μ_5 : MS) : Prop := (vp_in p1 60 ∧ (of_X11_windOf μ_5 (mi μ_5 15 (ix p1)) ∧ (of_X11_falls_18 μ p1 (f_X11_windOf μ_5 (mi μ_5 15 (ix p1))) 1 μ_5)))
def f_X11_falls (μ : MS) (p1 : Int32) : MS := (f_X11_falls_5 μ p1 (f_X11_measures μ p1))
def of_X11_falls (μ : MS) (p1 : Int32) : Prop := (of_X11_measures μ p1 ∧ (of_X11_falls_5 μ p1 (f_X11_measures μ p1)))
set_option maxHeartbeats 4000000 in
set_option maxRecDepth 100000 in
theorem k_X11_falls (l : Launch) (D : va_G) (a : Nat → ClassId) (mo : Nat) (μ : MS) (p1 : Int32) (hok : of_X11_falls μ p1) : KM l D a mo yX11_falls cX11_falls 5 none 5 134 [.int p1] μ none (f_X11_falls μ p1) := by
  refine goMv (by decide +kernel) (Nat.le_of_ble_eq_true rfl) ?_
  intro p e s m args below meth c ls R Q hRf hRl C hl hB
  obtain ⟨hM, ret⟩ := hB
  have hl : lv_has ls 5 [(0, .ref mo), (1, .int p1)] := hl
  have hx := C.1.1
  have hb := C.1.2.1
  have hts := C.1.2.2.2.2
  have hown := C.1.2.2.2.1
  have hf : (f_X11_falls μ p1) = (f_X11_falls μ p1) := rfl
  have J_116 : ∀ (μ_116 : MS), (f_X11_falls μ p1) = f_X11_falls_116 μ p1 μ_116 → ∀ (H : Heap) (locs : List Loc) (ls : Array Slot), HM D a mo μ_116 s.heap H locs → lv_has ls 5 [] → W p l e R s m args below meth c H locs 0 0 Q (F0 m 116 ls []) := by
    intro μ_116 hf H locs ls hM hl
    exact ret _ _ _ _ _ hM dX11_falls_116 hf
  have J_18 : ∀ (v2_18 : Int32) (v3_18 : Int32) (μ_18 : MS), (f_X11_falls μ p1) = f_X11_falls_18 μ p1 v2_18 v3_18 μ_18 → of_X11_falls_18 μ p1 v2_18 v3_18 μ_18 → ∀ (H : Heap) (locs : List Loc) (ls : Array Slot), HM D a mo μ_18 s.heap H locs → lv_has ls 5 [(0, .ref mo), (2, .int v2_18), (3, .int v3_18)] → W p l e R s m args below meth c H locs 0 0 Q (F0 m 18 ls []) := by
    intro v2_18 v3_18 μ_18 hf hok H locs ls hM hl
    refine itr_W (f := (s_X11_falls_18 v2_18)) (o := (os_X11_falls_18 v2_18)) (fun (v : Int32 × MS) => ∀ (H : Heap) (locs : List Loc) (ls : Array Slot), HM D a mo v.2 s.heap H locs → lv_has ls 5 [(0, .ref mo), (2, .int v2_18), (3, .int v.1)] → W p l e R s m args below meth c H locs 0 0 Q (F0 m 18 ls [])) (fun (v : Int32 × MS) => ∀ (H : Heap) (locs : List Loc) (ls : Array Slot), HM D a mo v.2 s.heap H locs → lv_has ls 5 [] → W p l e R s m args below meth c H locs 0 0 Q (F0 m 116 ls [])) ?_ FU (v3_18, μ_18) (And.left hok) ?_ _ _ ls hM (lv_sub hl [0, 1, 2] rfl)
    · intro v hov kc ke
      obtain ⟨w3_18, μw_18⟩ := v
      have hok : ob_X11_falls_18 v2_18 w3_18 μw_18 := hov
      change ∀ v', (b_X11_falls_18 v2_18 w3_18 μw_18) = (true, v') → _ at kc
      change ∀ v', (b_X11_falls_18 v2_18 w3_18 μw_18) = (false, v') → _ at ke
      have hf : (b_X11_falls_18 v2_18 w3_18 μw_18) = (b_X11_falls_18 v2_18 w3_18 μw_18) := rfl
      intro H locs ls hM hl
      have J_l18_102 : ∀ (v3_102 : Int32) (t0_102 : Int64) (t1_102 : Int64) (t2_102 : Int32) (μ_102 : MS), (b_X11_falls_18 v2_18 w3_18 μw_18) = f_X11_falls_l18_102 v2_18 w3_18 μw_18 v3_102 t0_102 t1_102 t2_102 μ_102 → of_X11_falls_l18_102 v2_18 w3_18 μw_18 v3_102 t0_102 t1_102 t2_102 μ_102 → ∀ (H : Heap) (locs : List Loc) (ls : Array Slot), HM D a mo μ_102 s.heap H locs → lv_has ls 5 [(0, .ref mo), (2, .int v2_18), (3, .int v3_102)] → W p l e R s m args below meth c H locs 0 0 Q (F0 m 102 ls [.long t0_102, .long t1_102, .int t2_102, .ref (mo + 25)]) := by
        intro v3_102 t0_102 t1_102 t2_102 μ_102 hf hok H locs ls hM hl
        refine lv_ladd hx hb dX11_falls_102 ?_
        refine lv_ldc2 (v := 100) hx hb hown (hts _ q_1451) dX11_falls_103 ?_
        have ok_11 := And.left hok
        have hok := And.right hok
        refine cc_S (av := [.long (t1_102 + t0_102), .long 100]) C (k_X11_down l D a (t1_102 + t0_102) 100 ok_11) cw_X11_202 (okR_of hRf hRl (Nat.le_of_ble_eq_true rfl) (Nat.le_of_ble_eq_true rfl)) rfl rfl hl.1 (Nat.le_of_ble_eq_true rfl) (Nat.zero_le _) (Nat.zero_le _) dX11_falls_106 ?_
        have ok_12 := And.left hok
        have hok := And.right hok
        refine ms_fallY C hM ok_12 dX11_falls_109 (fun H locs hM => ?_)
        refine lv_iinc (v := (v3_102 + 1)) (lv' := [(3, .int (v3_102 + 1)), (0, .ref mo), (2, .int v2_18)]) hx hb dX11_falls_110 hl (k := 2) rfl rfl (by decide) rfl (fun ls hl => ?_)
        refine lv_goto (tgt := 18) hx hb dX11_falls_113 (by decide) ?_
        exact kc ((v3_102 + 1), (mL μ_102 45 (ix t2_102) (f_X11_down (t1_102 + t0_102) 100))) hf H locs ls hM (lv_sub hl [1, 2, 0] rfl)
      have J_l18_63 : ∀ (v3_63 : Int32) (v4_63 : Int32) (t0_63 : Int64) (t1_63 : Int64) (t2_63 : Int32) (μ_63 : MS), (b_X11_falls_18 v2_18 w3_18 μw_18) = f_X11_falls_l18_63 v2_18 w3_18 μw_18 v3_63 v4_63 t0_63 t1_63 t2_63 μ_63 → of_X11_falls_l18_63 v2_18 w3_18 μw_18 v3_63 v4_63 t0_63 t1_63 t2_63 μ_63 → ∀ (H : Heap) (locs : List Loc) (ls : Array Slot), HM D a mo μ_63 s.heap H locs → lv_has ls 5 [(0, .ref mo), (2, .int v2_18), (3, .int v3_63), (4, .int v4_63)] → W p l e R s m args below meth c H locs 0 0 Q (F0 m 63 ls [.long t0_63, .long t1_63, .int t2_63, .ref (mo + 24)]) := by
        intro v3_63 v4_63 t0_63 t1_63 t2_63 μ_63 hf hok H locs ls hM hl
        refine lv_ladd hx hb dX11_falls_63 ?_
        refine lv_ldc2 (v := 100) hx hb hown (hts _ q_1451) dX11_falls_64 ?_
        have ok_7 := And.left hok
        have hok := And.right hok
        refine cc_S (av := [.long (t1_63 + t0_63), .long 100]) C (k_X11_down l D a (t1_63 + t0_63) 100 ok_7) cw_X11_202 (okR_of hRf hRl (Nat.le_of_ble_eq_true rfl) (Nat.le_of_ble_eq_true rfl)) rfl rfl hl.1 (Nat.le_of_ble_eq_true rfl) (Nat.zero_le _) (Nat.zero_le _) dX11_falls_67 ?_
        have ok_8 := And.left hok
        have hok := And.right hok
        refine ms_fallX C hM ok_8 dX11_falls_70 (fun H locs hM => ?_)
        refine lv_aload_n hx hb dX11_falls_71 rfl (lv_at hl 0 rfl) ?_
        refine mg_fallY C hM dX11_falls_72 ?_
        refine lv_iload_n hx hb dX11_falls_75 rfl (lv_at hl 2 rfl) ?_
        refine lv_iconst (v := 1) hx hb dX11_falls_76 (by decide) ?_
        refine lv_isub hx hb dX11_falls_77 ?_
        refine lv_aload_n hx hb dX11_falls_78 rfl (lv_at hl 0 rfl) ?_
        refine mg_toY C hM dX11_falls_79 ?_
        refine lv_iload_n hx hb dX11_falls_82 rfl (lv_at hl 1 rfl) ?_
        refine lv_iconst (v := (-1)) hx hb dX11_falls_83 (by decide) ?_
        refine lv_icmp_ne (tgt := 91) hx hb dX11_falls_84 (by decide) (fun c_9 => ?_) (fun c_9 => ?_)
        · have hf := hf.trans (if_neg c_9)
          have hok := oif_neg hok c_9
          refine lv_aload_n hx hb dX11_falls_91 rfl (lv_at hl 0 rfl) ?_
          refine mg_windY C hM dX11_falls_92 ?_
          refine lv_iload_n hx hb dX11_falls_95 rfl (lv_at hl 1 rfl) ?_
          have ok_10 := And.left hok
          have hok := And.right hok
          refine ma_windY C hM ok_10 dX11_falls_96 ?_
          refine lv_i2l (v := ((mi μ_63 38 (ix v2_18)).toInt64)) hx hb dX11_falls_97 rfl ?_
          refine lv_iload hx hb dX11_falls_98 (lv_at hl 3 rfl) ?_
          refine lv_i2l (v := v4_63.toInt64) hx hb dX11_falls_100 rfl ?_
          refine lv_lmul hx hb dX11_falls_101 ?_
          exact J_l18_102 v3_63 (((mi μ_63 38 (ix v2_18)).toInt64) * v4_63.toInt64) (ml μ_63 30 0) (v3_63 - 1) (mL μ_63 44 (ix t2_63) (f_X11_down (t1_63 + t0_63) 100)) hf hok _ _ ls hM (lv_sub hl [0, 1, 2] rfl)
        · have hf := hf.trans (if_pos c_9)
          have hok := oif_pos hok c_9
          refine lv_lconst (v := 0) hx hb dX11_falls_87 (by decide) ?_
          refine lv_goto (tgt := 102) hx hb dX11_falls_88 (by decide) ?_
          exact J_l18_102 v3_63 0 (ml μ_63 30 0) (v3_63 - 1) (mL μ_63 44 (ix t2_63) (f_X11_down (t1_63 + t0_63) 100)) hf hok _ _ ls hM (lv_sub hl [0, 1, 2] rfl)
      refine lv_iload_n hx hb dX11_falls_18 rfl (lv_at hl 2 rfl) ?_
      refine lv_iconst (v := 5) hx hb dX11_falls_19 (by decide) ?_
      refine lv_icmp_gt (tgt := 116) hx hb dX11_falls_20 (by decide) (fun c_4 => ?_) (fun c_4 => ?_)
      · have hf := hf.trans (if_pos c_4)
        have hok := oif_pos hok c_4
        exact ke (w3_18, μw_18) hf H locs ls hM (lv_sub hl [] rfl)
      · have hf := hf.trans (if_neg c_4)
        have hok := oif_neg hok c_4
        refine lv_bipush (v := 20) hx hb dX11_falls_23 (by decide) ?_
        refine lv_bipush (v := 6) hx hb dX11_falls_25 (by decide) ?_
        refine lv_iload_n hx hb dX11_falls_27 rfl (lv_at hl 2 rfl) ?_
        refine lv_isub hx hb dX11_falls_28 ?_
        refine lv_imul hx hb dX11_falls_29 ?_
        refine lv_istore (lv' := [(4, .int (20 * (6 - w3_18))), (0, .ref mo), (2, .int v2_18), (3, .int w3_18)]) hx hb dX11_falls_30 hl (by decide) rfl (fun ls hl => ?_)
        refine lv_aload_n hx hb dX11_falls_32 rfl (lv_at hl 1 rfl) ?_
        refine mg_fallX C hM dX11_falls_33 ?_
        refine lv_iload_n hx hb dX11_falls_36 rfl (lv_at hl 3 rfl) ?_
        refine lv_iconst (v := 1) hx hb dX11_falls_37 (by decide) ?_
        refine lv_isub hx hb dX11_falls_38 ?_
        refine lv_aload_n hx hb dX11_falls_39 rfl (lv_at hl 1 rfl) ?_
        refine mg_toX C hM dX11_falls_40 ?_
        refine lv_iload_n hx hb dX11_falls_43 rfl (lv_at hl 2 rfl) ?_
        refine lv_iconst (v := (-1)) hx hb dX11_falls_44 (by decide) ?_
        refine lv_icmp_ne (tgt := 52) hx hb dX11_falls_45 (by decide) (fun c_5 => ?_) (fun c_5 => ?_)
        · have hf := hf.trans (if_neg c_5)
          have hok := oif_neg hok c_5
          refine lv_aload_n hx hb dX11_falls_52 rfl (lv_at hl 1 rfl) ?_
          refine mg_windX C hM dX11_falls_53 ?_
          refine lv_iload_n hx hb dX11_falls_56 rfl (lv_at hl 2 rfl) ?_
          have ok_6 := And.left hok
          have hok := And.right hok
          refine ma_windX C hM ok_6 dX11_falls_57 ?_
          refine lv_i2l (v := ((mi μw_18 37 (ix v2_18)).toInt64)) hx hb dX11_falls_58 rfl ?_
          refine lv_iload hx hb dX11_falls_59 (lv_at hl 0 rfl) ?_
          refine lv_i2l (v := ((20 * (6 - w3_18)).toInt64)) hx hb dX11_falls_61 rfl ?_
          refine lv_lmul hx hb dX11_falls_62 ?_
          exact J_l18_63 w3_18 (20 * (6 - w3_18)) (((mi μw_18 37 (ix v2_18)).toInt64) * ((20 * (6 - w3_18)).toInt64)) (ml μw_18 29 0) (w3_18 - 1) μw_18 hf hok _ _ ls hM (lv_sub hl [1, 2, 3, 0] rfl)
        · have hf := hf.trans (if_pos c_5)
          have hok := oif_pos hok c_5
          refine lv_lconst (v := 0) hx hb dX11_falls_48 (by decide) ?_
          refine lv_goto (tgt := 63) hx hb dX11_falls_49 (by decide) ?_
          exact J_l18_63 w3_18 (20 * (6 - w3_18)) 0 (ml μw_18 29 0) (w3_18 - 1) μw_18 hf hok _ _ ls hM (lv_sub hl [1, 2, 3, 0] rfl)
    · have hok := And.right hok
      intro H locs ls hM hl
      exact J_116 ((itr (s_X11_falls_18 v2_18) FU (v3_18, μ_18)).2) hf _ _ ls hM (lv_sub hl [] rfl)
  have J_5 : ∀ (μ_5 : MS), (f_X11_falls μ p1) = f_X11_falls_5 μ p1 μ_5 → of_X11_falls_5 μ p1 μ_5 → ∀ (H : Heap) (locs : List Loc) (ls : Array Slot), HM D a mo μ_5 s.heap H locs → lv_has ls 5 [(0, .ref mo), (1, .int p1)] → W p l e R s m args below meth c H locs 0 0 Q (F0 m 5 ls []) := by
    intro μ_5 hf hok H locs ls hM hl
    refine lv_aload_n hx hb dX11_falls_5 rfl (lv_at hl 0 rfl) ?_
    refine lv_aload_n hx hb dX11_falls_6 rfl (lv_at hl 0 rfl) ?_
    refine mg_nights C hM dX11_falls_7 ?_
    refine lv_iload_n hx hb dX11_falls_10 rfl (lv_at hl 1 rfl) ?_
    have ok_2 := And.left hok
    have hok := And.right hok
    refine ma_nights C hM ok_2 dX11_falls_11 ?_
    have ok_3 := And.left hok
    have hok := And.right hok
    refine cc_R (av := [.int (mi μ_5 15 (ix p1))]) C hM (k_X11_windOf l D a mo μ_5 (mi μ_5 15 (ix p1)) ok_3) cw_X11_279 (okR_of hRf hRl (Nat.le_of_ble_eq_true rfl) (Nat.le_of_ble_eq_true rfl)) rfl rfl hl.1 (Nat.le_of_ble_eq_true rfl) (Nat.zero_le _) (Nat.zero_le _) dX11_falls_12 ?_
    refine lv_istore_n (lv' := [(2, .int (f_X11_windOf μ_5 (mi μ_5 15 (ix p1)))), (0, .ref mo), (1, .int p1)]) hx hb dX11_falls_15 rfl hl (by decide) rfl (fun ls hl => ?_)
    refine lv_iconst (v := 1) hx hb dX11_falls_16 (by decide) ?_
    refine lv_istore_n (lv' := [(3, .int 1), (2, .int (f_X11_windOf μ_5 (mi μ_5 15 (ix p1)))), (0, .ref mo), (1, .int p1)]) hx hb dX11_falls_17 rfl hl (by decide) rfl (fun ls hl => ?_)
    exact J_18 (f_X11_windOf μ_5 (mi μ_5 15 (ix p1))) 1 μ_5 hf hok _ _ ls hM (lv_sub hl [2, 1, 0] rfl)
  refine lv_aload_n hx hb dX11_falls_0 rfl (lv_at hl 0 rfl) ?_
  refine lv_iload_n hx hb dX11_falls_1 rfl (lv_at hl 1 rfl) ?_
  have ok_1 := And.left hok
  have hok := And.right hok
  refine cc_M (av := [.int p1]) C hM (k_X11_measures l D a mo μ p1 ok_1) cw_X11_269 (okR_of hRf hRl (Nat.le_of_ble_eq_true rfl) (Nat.le_of_ble_eq_true rfl)) rfl rfl hl.1 (Nat.le_of_ble_eq_true rfl) (Nat.zero_le _) (Nat.zero_le _) dX11_falls_2 (fun H locs hM => ?_)
  exact J_5 (f_X11_measures μ p1) hf hok _ _ ls hM (lv_sub hl [0, 1] rfl)
def f_X11_weight_l6_126 (p1 : Int32) (p2 : Int32) (p3 : Int32) (μ : MS) (w4_6 : Int64) (w6_6 : Int32) (v6_126 : Int32) (t0_126 : Int64) (t1_126 : Int64) : Bool × (Int64 × Int32) := (true, ((t1_126 + t0_126), (v6_126 + 1)))
def f_X11_weight_l6_103 (p1 : Int32) (p2 : Int32) (p3 : Int32) (μ : MS) (w4_6 : Int64) (w6_6 : Int32) (v4_103 : Int64) (v6_103 : Int32) (t0_103 : Int64) : Bool × (Int64 × Int32) := (if 0 ≤ (lg_cmp t0_103 8) then (f_X11_weight_l6_126 p1 p2 p3 μ w4_6 w6_6 v6_103 0 v4_103) else (f_X11_weight_l6_126 p1 p2 p3 μ w4_6 w6_6 v6_103 (8 - t0_103) v4_103))
def f_X11_weight_l6_86 (p1 : Int32) (p2 : Int32) (p3 : Int32) (μ : MS) (w4_6 : Int64) (w6_6 : Int32) (v4_86 : Int64) (v6_86 : Int32) (v7_86 : Int64) (t0_86 : Int64) : Bool × (Int64 × Int32) := (if (lg_cmp v7_86 t0_86) ≤ 0 then (f_X11_weight_l6_103 p1 p2 p3 μ w4_6 w6_6 v4_86 v6_86 t0_86) else (f_X11_weight_l6_103 p1 p2 p3 μ w4_6 w6_6 v4_86 v6_86 v7_86))
def f_X11_weight_l6_48 (p1 : Int32) (p2 : Int32) (p3 : Int32) (μ : MS) (w4_6 : Int64) (w6_6 : Int32) (v4_48 : Int64) (v6_48 : Int32) (t0_48 : Int64) : Bool × (Int64 × Int32) := (if (lg_cmp (ml μ 45 (ix v6_48)) p3.toInt64) ≤ 0 then (f_X11_weight_l6_86 p1 p2 p3 μ w4_6 w6_6 v4_48 v6_48 t0_48 (p3.toInt64 - (ml μ 45 (ix v6_48)))) else (f_X11_weight_l6_86 p1 p2 p3 μ w4_6 w6_6 v4_48 v6_48 t0_48 ((ml μ 45 (ix v6_48)) - p3.toInt64)))
def of_X11_weight_l6_48 (p1 : Int32) (p2 : Int32) (p3 : Int32) (μ : MS) (w4_6 : Int64) (w6_6 : Int32) (v4_48 : Int64) (v6_48 : Int32) (t0_48 : Int64) : Prop := (vp_in v6_48 5 ∧ (oif ((lg_cmp (ml μ 45 (ix v6_48)) p3.toInt64) ≤ 0) (vp_in v6_48 5 ∧ True) (vp_in v6_48 5 ∧ True)))
def b_X11_weight_6 (p1 : Int32) (p2 : Int32) (p3 : Int32) (μ : MS) (w4_6 : Int64) (w6_6 : Int32) : Bool × (Int64 × Int32) := (if 5 ≤ w6_6 then (false, (w4_6, w6_6)) else (if (lg_cmp (ml μ 44 (ix w6_6)) p2.toInt64) ≤ 0 then (f_X11_weight_l6_48 p1 p2 p3 μ w4_6 w6_6 w4_6 w6_6 (p2.toInt64 - (ml μ 44 (ix w6_6)))) else (f_X11_weight_l6_48 p1 p2 p3 μ w4_6 w6_6 w4_6 w6_6 ((ml μ 44 (ix w6_6)) - p2.toInt64))))
def ob_X11_weight_6 (p1 : Int32) (p2 : Int32) (p3 : Int32) (μ : MS) (w4_6 : Int64) (w6_6 : Int32) : Prop := (oif (5 ≤ w6_6) True (vp_in w6_6 5 ∧ (oif ((lg_cmp (ml μ 44 (ix w6_6)) p2.toInt64) ≤ 0) (vp_in w6_6 5 ∧ (of_X11_weight_l6_48 p1 p2 p3 μ w4_6 w6_6 w4_6 w6_6 (p2.toInt64 - (ml μ 44 (ix w6_6))))) (vp_in w6_6 5 ∧ (of_X11_weight_l6_48 p1 p2 p3 μ w4_6 w6_6 w4_6 w6_6 ((ml μ 44 (ix w6_6)) - p2.toInt64))))))
def s_X11_weight_6 (p1 : Int32) (p2 : Int32) (p3 : Int32) (μ : MS) (v : Int64 × Int32) : Bool × (Int64 × Int32) := b_X11_weight_6 p1 p2 p3 μ v.1 v.2
def os_X11_weight_6 (p1 : Int32) (p2 : Int32) (p3 : Int32) (μ : MS) (v : Int64 × Int32) : Prop := ob_X11_weight_6 p1 p2 p3 μ v.1 v.2
def f_X11_weight_l146_218 (p1 : Int32) (p2 : Int32) (p3 : Int32) (μ : MS) (w4_146 : Int64) (w6_146 : Int32) (v6_218 : Int32) (t0_218 : Int64) : Bool × (Int64 × Int32) := (true, (t0_218, (v6_218 + 1)))
def f_X11_weight_l146_216 (p1 : Int32) (p2 : Int32) (p3 : Int32) (μ : MS) (w4_146 : Int64) (w6_146 : Int32) (v4_216 : Int64) (v6_216 : Int32) : Bool × (Int64 × Int32) := (f_X11_weight_l146_218 p1 p2 p3 μ w4_146 w6_146 v6_216 v4_216)
def b_X11_weight_146 (p1 : Int32) (p2 : Int32) (p3 : Int32) (μ : MS) (w4_146 : Int64) (w6_146 : Int32) : Bool × (Int64 × Int32) := (if (mi μ 39 0) ≤ w6_146 then (false, (w4_146, w6_146)) else (if (lg_cmp w4_146 0) ≤ 0 then (false, (w4_146, w6_146)) else (if (mi μ 40 (ix w6_146)) = p1 then (if (mi μ 41 (ix w6_146)) = p2 then (if (mi μ 42 (ix w6_146)) = p3 then (f_X11_weight_l146_218 p1 p2 p3 μ w4_146 w6_146 w6_146 ((w4_146 * ((100 - (mi μ 43 (ix w6_146))).toInt64)) / 100)) else (f_X11_weight_l146_216 p1 p2 p3 μ w4_146 w6_146 w4_146 w6_146)) else (f_X11_weight_l146_216 p1 p2 p3 μ w4_146 w6_146 w4_146 w6_146)) else (f_X11_weight_l146_216 p1 p2 p3 μ w4_146 w6_146 w4_146 w6_146))))
def ob_X11_weight_146 (p1 : Int32) (p2 : Int32) (p3 : Int32) (μ : MS) (w4_146 : Int64) (w6_146 : Int32) : Prop := (oif ((mi μ 39 0) ≤ w6_146) True (oif ((lg_cmp w4_146 0) ≤ 0) True (vp_in w6_146 60 ∧ (oif ((mi μ 40 (ix w6_146)) = p1) (vp_in w6_146 60 ∧ (oif ((mi μ 41 (ix w6_146)) = p2) (vp_in w6_146 60 ∧ (oif ((mi μ 42 (ix w6_146)) = p3) (vp_in w6_146 60 ∧ True) True)) True)) True))))
def s_X11_weight_146 (p1 : Int32) (p2 : Int32) (p3 : Int32) (μ : MS) (v : Int64 × Int32) : Bool × (Int64 × Int32) := b_X11_weight_146 p1 p2 p3 μ v.1 v.2
def os_X11_weight_146 (p1 : Int32) (p2 : Int32) (p3 : Int32) (μ : MS) (v : Int64 × Int32) : Prop := ob_X11_weight_146 p1 p2 p3 μ v.1 v.2
def f_X11_weight_226 (μ : MS) (p1 : Int32) (p2 : Int32) (p3 : Int32) (v4_226 : Int64) : Int64 := v4_226
def f_X11_weight_146 (μ : MS) (p1 : Int32) (p2 : Int32) (p3 : Int32) (v4_146 : Int64) (v6_146 : Int32) : Int64 := (f_X11_weight_226 μ p1 p2 p3 ((itr (s_X11_weight_146 p1 p2 p3 μ) FU (v4_146, v6_146)).1))
def of_X11_weight_146 (μ : MS) (p1 : Int32) (p2 : Int32) (p3 : Int32) (v4_146 : Int64) (v6_146 : Int32) : Prop := (ito (s_X11_weight_146 p1 p2 p3 μ) (os_X11_weight_146 p1 p2 p3 μ) FU (v4_146, v6_146) ∧ True)
def f_X11_weight_135 (μ : MS) (p1 : Int32) (p2 : Int32) (p3 : Int32) (v4_135 : Int64) : Int64 := (f_X11_weight_146 μ p1 p2 p3 (v4_135 * 1000000) 0)
def of_X11_weight_135 (μ : MS) (p1 : Int32) (p2 : Int32) (p3 : Int32) (v4_135 : Int64) : Prop := (of_X11_weight_146 μ p1 p2 p3 (v4_135 * 1000000) 0)
def f_X11_weight_6 (μ : MS) (p1 : Int32) (p2 : Int32) (p3 : Int32) (v4_6 : Int64) (v6_6 : Int32) : Int64 := (f_X11_weight_135 μ p1 p2 p3 ((itr (s_X11_weight_6 p1 p2 p3 μ) FU (v4_6, v6_6)).1))
def of_X11_weight_6 (μ : MS) (p1 : Int32) (p2 : Int32) (p3 : Int32) (v4_6 : Int64) (v6_6 : Int32) : Prop := (ito (s_X11_weight_6 p1 p2 p3 μ) (os_X11_weight_6 p1 p2 p3 μ) FU (v4_6, v6_6) ∧ (of_X11_weight_135 μ p1 p2 p3 ((itr (s_X11_weight_6 p1 p2 p3 μ) FU (v4_6, v6_6)).1)))
def f_X11_weight (μ : MS) (p1 : Int32) (p2 : Int32) (p3 : Int32) : Int64 := (f_X11_weight_6 μ p1 p2 p3 0 0)
def of_X11_weight (μ : MS) (p1 : Int32) (p2 : Int32) (p3 : Int32) : Prop := (of_X11_weight_6 μ p1 p2 p3 0 0)
set_option maxHeartbeats 4000000 in
set_option maxRecDepth 100000 in
theorem k_X11_weight (l : Launch) (D : va_G) (a : Nat → ClassId) (mo : Nat) (μ : MS) (p1 : Int32) (p2 : Int32) (p3 : Int32) (hok : of_X11_weight μ p1 p2 p3) : K0 l yX11_weight cX11_weight 13 ((some .long)) 0 0 [.ref mo, .int p1, .int p2, .int p3] (BM D a mo μ) (.long (f_X11_weight μ p1 p2 p3)) := by
  refine go0l (D := D) (a := a) (by decide +kernel) (fun _ h => h.1) (Nat.le_of_ble_eq_true rfl) ?_
  intro p e s m args below meth c ls R Q hRf hRl C hl hB
  obtain ⟨hB, ret⟩ := hB
  have hM : HM D a mo μ s.heap s.heap [] := ⟨hB.2, va_S.rf⟩
  have hl : lv_has ls 13 [(0, .ref mo), (1, .int p1), (2, .int p2), (3, .int p3)] := hl
  have hx := C.1.1
  have hb := C.1.2.1
  have hts := C.1.2.2.2.2
  have hown := C.1.2.2.2.1
  have hf : (f_X11_weight μ p1 p2 p3) = (f_X11_weight μ p1 p2 p3) := rfl
  have J_226 : ∀ (v4_226 : Int64), (f_X11_weight μ p1 p2 p3) = f_X11_weight_226 μ p1 p2 p3 v4_226 → ∀ (ls : Array Slot), lv_has ls 13 [(4, .long v4_226)] → W p l e R s m args below meth c s.heap [] 0 0 Q (F0 m 226 ls []) := by
    intro v4_226 hf ls hl
    refine lv_lload hx hb dX11_weight_226 (lv_at hl 0 rfl) ?_
    exact ret _ _ _ dX11_weight_228 hf
  have J_146 : ∀ (v4_146 : Int64) (v6_146 : Int32), (f_X11_weight μ p1 p2 p3) = f_X11_weight_146 μ p1 p2 p3 v4_146 v6_146 → of_X11_weight_146 μ p1 p2 p3 v4_146 v6_146 → ∀ (ls : Array Slot), lv_has ls 13 [(0, .ref mo), (1, .int p1), (2, .int p2), (3, .int p3), (4, .long v4_146), (6, .int v6_146)] → W p l e R s m args below meth c s.heap [] 0 0 Q (F0 m 146 ls []) := by
    intro v4_146 v6_146 hf hok ls hl
    refine itr_W (f := (s_X11_weight_146 p1 p2 p3 μ)) (o := (os_X11_weight_146 p1 p2 p3 μ)) (fun (v : Int64 × Int32) => ∀ (ls : Array Slot), lv_has ls 13 [(0, .ref mo), (1, .int p1), (2, .int p2), (3, .int p3), (4, .long v.1), (6, .int v.2)] → W p l e R s m args below meth c s.heap [] 0 0 Q (F0 m 146 ls [])) (fun (v : Int64 × Int32) => ∀ (ls : Array Slot), lv_has ls 13 [(4, .long v.1)] → W p l e R s m args below meth c s.heap [] 0 0 Q (F0 m 226 ls [])) ?_ FU (v4_146, v6_146) (And.left hok) ?_ ls (lv_sub hl [0, 1, 2, 3, 4, 5] rfl)
    · intro v hov kc ke
      obtain ⟨w4_146, w6_146⟩ := v
      have hok : ob_X11_weight_146 p1 p2 p3 μ w4_146 w6_146 := hov
      change ∀ v', (b_X11_weight_146 p1 p2 p3 μ w4_146 w6_146) = (true, v') → _ at kc
      change ∀ v', (b_X11_weight_146 p1 p2 p3 μ w4_146 w6_146) = (false, v') → _ at ke
      have hf : (b_X11_weight_146 p1 p2 p3 μ w4_146 w6_146) = (b_X11_weight_146 p1 p2 p3 μ w4_146 w6_146) := rfl
      intro ls hl
      have J_l146_218 : ∀ (v6_218 : Int32) (t0_218 : Int64), (b_X11_weight_146 p1 p2 p3 μ w4_146 w6_146) = f_X11_weight_l146_218 p1 p2 p3 μ w4_146 w6_146 v6_218 t0_218 → ∀ (ls : Array Slot), lv_has ls 13 [(0, .ref mo), (1, .int p1), (2, .int p2), (3, .int p3), (6, .int v6_218)] → W p l e R s m args below meth c s.heap [] 0 0 Q (F0 m 218 ls [.long t0_218]) := by
        intro v6_218 t0_218 hf ls hl
        refine lv_lstore (lv' := [(4, .long t0_218), (0, .ref mo), (1, .int p1), (2, .int p2), (3, .int p3), (6, .int v6_218)]) hx hb dX11_weight_218 hl (by decide) rfl (fun ls hl => ?_)
        refine lv_iinc (v := (v6_218 + 1)) (lv' := [(6, .int (v6_218 + 1)), (4, .long t0_218), (0, .ref mo), (1, .int p1), (2, .int p2), (3, .int p3)]) hx hb dX11_weight_220 hl (k := 5) rfl rfl (by decide) rfl (fun ls hl => ?_)
        refine lv_goto (tgt := 146) hx hb dX11_weight_223 (by decide) ?_
        exact kc (t0_218, (v6_218 + 1)) hf ls (lv_sub hl [2, 3, 4, 5, 1, 0] rfl)
      have J_l146_216 : ∀ (v4_216 : Int64) (v6_216 : Int32), (b_X11_weight_146 p1 p2 p3 μ w4_146 w6_146) = f_X11_weight_l146_216 p1 p2 p3 μ w4_146 w6_146 v4_216 v6_216 → ∀ (ls : Array Slot), lv_has ls 13 [(0, .ref mo), (1, .int p1), (2, .int p2), (3, .int p3), (4, .long v4_216), (6, .int v6_216)] → W p l e R s m args below meth c s.heap [] 0 0 Q (F0 m 216 ls []) := by
        intro v4_216 v6_216 hf ls hl
        refine lv_lload hx hb dX11_weight_216 (lv_at hl 4 rfl) ?_
        exact J_l146_218 v6_216 v4_216 hf ls (lv_sub hl [0, 1, 2, 3, 5] rfl)
      refine lv_iload hx hb dX11_weight_146 (lv_at hl 5 rfl) ?_
      refine lv_aload_n hx hb dX11_weight_148 rfl (lv_at hl 0 rfl) ?_
      refine mg_walks C hM dX11_weight_149 ?_
      refine lv_icmp_ge (tgt := 226) hx hb dX11_weight_152 (by decide) (fun c_12 => ?_) (fun c_12 => ?_)
      · have hf := hf.trans (if_pos c_12)
        have hok := oif_pos hok c_12
        exact ke (w4_146, w6_146) hf ls (lv_sub hl [4] rfl)
      · have hf := hf.trans (if_neg c_12)
        have hok := oif_neg hok c_12
        refine lv_lload hx hb dX11_weight_155 (lv_at hl 4 rfl) ?_
        refine lv_lconst (v := 0) hx hb dX11_weight_157 (by decide) ?_
        refine W.lcmp hx hb dX11_weight_158 ?_
        refine lv_if_le (tgt := 226) hx hb dX11_weight_159 (by decide) (fun c_13 => ?_) (fun c_13 => ?_)
        · have hf := hf.trans (if_pos c_13)
          have hok := oif_pos hok c_13
          exact ke (w4_146, w6_146) hf ls (lv_sub hl [4] rfl)
        · have hf := hf.trans (if_neg c_13)
          have hok := oif_neg hok c_13
          refine lv_aload_n hx hb dX11_weight_162 rfl (lv_at hl 0 rfl) ?_
          refine mg_walkFireballs C hM dX11_weight_163 ?_
          refine lv_iload hx hb dX11_weight_166 (lv_at hl 5 rfl) ?_
          have ok_14 := And.left hok
          have hok := And.right hok
          refine ma_walkFireballs C hM ok_14 dX11_weight_168 ?_
          refine lv_iload_n hx hb dX11_weight_169 rfl (lv_at hl 1 rfl) ?_
          refine lv_icmp_ne (tgt := 216) hx hb dX11_weight_170 (by decide) (fun c_15 => ?_) (fun c_15 => ?_)
          · have hf := hf.trans (if_neg c_15)
            have hok := oif_neg hok c_15
            exact J_l146_216 w4_146 w6_146 hf ls (lv_sub hl [0, 1, 2, 3, 4, 5] rfl)
          · have hf := hf.trans (if_pos c_15)
            have hok := oif_pos hok c_15
            refine lv_aload_n hx hb dX11_weight_173 rfl (lv_at hl 0 rfl) ?_
            refine mg_walkX C hM dX11_weight_174 ?_
            refine lv_iload hx hb dX11_weight_177 (lv_at hl 5 rfl) ?_
            have ok_16 := And.left hok
            have hok := And.right hok
            refine ma_walkX C hM ok_16 dX11_weight_179 ?_
            refine lv_iload_n hx hb dX11_weight_180 rfl (lv_at hl 2 rfl) ?_
            refine lv_icmp_ne (tgt := 216) hx hb dX11_weight_181 (by decide) (fun c_17 => ?_) (fun c_17 => ?_)
            · have hf := hf.trans (if_neg c_17)
              have hok := oif_neg hok c_17
              exact J_l146_216 w4_146 w6_146 hf ls (lv_sub hl [0, 1, 2, 3, 4, 5] rfl)
            · have hf := hf.trans (if_pos c_17)
              have hok := oif_pos hok c_17
              refine lv_aload_n hx hb dX11_weight_184 rfl (lv_at hl 0 rfl) ?_
              refine mg_walkY C hM dX11_weight_185 ?_
              refine lv_iload hx hb dX11_weight_188 (lv_at hl 5 rfl) ?_
              have ok_18 := And.left hok
              have hok := And.right hok
              refine ma_walkY C hM ok_18 dX11_weight_190 ?_
              refine lv_iload_n hx hb dX11_weight_191 rfl (lv_at hl 3 rfl) ?_
              refine lv_icmp_ne (tgt := 216) hx hb dX11_weight_192 (by decide) (fun c_19 => ?_) (fun c_19 => ?_)
              · have hf := hf.trans (if_neg c_19)
                have hok := oif_neg hok c_19
                exact J_l146_216 w4_146 w6_146 hf ls (lv_sub hl [0, 1, 2, 3, 4, 5] rfl)
              · have hf := hf.trans (if_pos c_19)
                have hok := oif_pos hok c_19
                refine lv_lload hx hb dX11_weight_195 (lv_at hl 4 rfl) ?_
                refine lv_bipush (v := 100) hx hb dX11_weight_197 (by decide) ?_
                refine lv_aload_n hx hb dX11_weight_199 rfl (lv_at hl 0 rfl) ?_
                refine mg_skills C hM dX11_weight_200 ?_
                refine lv_iload hx hb dX11_weight_203 (lv_at hl 5 rfl) ?_
                have ok_20 := And.left hok
                have hok := And.right hok
                refine ma_skills C hM ok_20 dX11_weight_205 ?_
                refine lv_isub hx hb dX11_weight_206 ?_
                refine lv_i2l (v := ((100 - (mi μ 43 (ix w6_146))).toInt64)) hx hb dX11_weight_207 rfl ?_
                refine lv_lmul hx hb dX11_weight_208 ?_
                refine lv_ldc2 (v := 100) hx hb hown (hts _ q_1451) dX11_weight_209 ?_
                refine lv_ldiv hx hb dX11_weight_212 (by decide) ?_
                refine lv_goto (tgt := 218) hx hb dX11_weight_213 (by decide) ?_
                exact J_l146_218 w6_146 ((w4_146 * ((100 - (mi μ 43 (ix w6_146))).toInt64)) / 100) hf ls (lv_sub hl [0, 1, 2, 3, 5] rfl)
    · have hok := And.right hok
      intro ls hl
      exact J_226 ((itr (s_X11_weight_146 p1 p2 p3 μ) FU (v4_146, v6_146)).1) hf ls (lv_sub hl [0] rfl)
  have J_135 : ∀ (v4_135 : Int64), (f_X11_weight μ p1 p2 p3) = f_X11_weight_135 μ p1 p2 p3 v4_135 → of_X11_weight_135 μ p1 p2 p3 v4_135 → ∀ (ls : Array Slot), lv_has ls 13 [(0, .ref mo), (1, .int p1), (2, .int p2), (3, .int p3), (4, .long v4_135)] → W p l e R s m args below meth c s.heap [] 0 0 Q (F0 m 135 ls []) := by
    intro v4_135 hf hok ls hl
    refine lv_lload hx hb dX11_weight_135 (lv_at hl 4 rfl) ?_
    refine lv_ldc2 (v := 1000000) hx hb hown (hts _ q_1523) dX11_weight_137 ?_
    refine lv_lmul hx hb dX11_weight_140 ?_
    refine lv_lstore (lv' := [(4, .long (v4_135 * 1000000)), (0, .ref mo), (1, .int p1), (2, .int p2), (3, .int p3)]) hx hb dX11_weight_141 hl (by decide) rfl (fun ls hl => ?_)
    refine lv_iconst (v := 0) hx hb dX11_weight_143 (by decide) ?_
    refine lv_istore (lv' := [(6, .int 0), (4, .long (v4_135 * 1000000)), (0, .ref mo), (1, .int p1), (2, .int p2), (3, .int p3)]) hx hb dX11_weight_144 hl (by decide) rfl (fun ls hl => ?_)
    exact J_146 (v4_135 * 1000000) 0 hf hok ls (lv_sub hl [2, 3, 4, 5, 1, 0] rfl)
  have J_6 : ∀ (v4_6 : Int64) (v6_6 : Int32), (f_X11_weight μ p1 p2 p3) = f_X11_weight_6 μ p1 p2 p3 v4_6 v6_6 → of_X11_weight_6 μ p1 p2 p3 v4_6 v6_6 → ∀ (ls : Array Slot), lv_has ls 13 [(0, .ref mo), (1, .int p1), (2, .int p2), (3, .int p3), (4, .long v4_6), (6, .int v6_6)] → W p l e R s m args below meth c s.heap [] 0 0 Q (F0 m 6 ls []) := by
    intro v4_6 v6_6 hf hok ls hl
    refine itr_W (f := (s_X11_weight_6 p1 p2 p3 μ)) (o := (os_X11_weight_6 p1 p2 p3 μ)) (fun (v : Int64 × Int32) => ∀ (ls : Array Slot), lv_has ls 13 [(0, .ref mo), (1, .int p1), (2, .int p2), (3, .int p3), (4, .long v.1), (6, .int v.2)] → W p l e R s m args below meth c s.heap [] 0 0 Q (F0 m 6 ls [])) (fun (v : Int64 × Int32) => ∀ (ls : Array Slot), lv_has ls 13 [(0, .ref mo), (1, .int p1), (2, .int p2), (3, .int p3), (4, .long v.1)] → W p l e R s m args below meth c s.heap [] 0 0 Q (F0 m 135 ls [])) ?_ FU (v4_6, v6_6) (And.left hok) ?_ ls (lv_sub hl [0, 1, 2, 3, 4, 5] rfl)
    · intro v hov kc ke
      obtain ⟨w4_6, w6_6⟩ := v
      have hok : ob_X11_weight_6 p1 p2 p3 μ w4_6 w6_6 := hov
      change ∀ v', (b_X11_weight_6 p1 p2 p3 μ w4_6 w6_6) = (true, v') → _ at kc
      change ∀ v', (b_X11_weight_6 p1 p2 p3 μ w4_6 w6_6) = (false, v') → _ at ke
      have hf : (b_X11_weight_6 p1 p2 p3 μ w4_6 w6_6) = (b_X11_weight_6 p1 p2 p3 μ w4_6 w6_6) := rfl
      intro ls hl
      have J_l6_126 : ∀ (v6_126 : Int32) (t0_126 : Int64) (t1_126 : Int64), (b_X11_weight_6 p1 p2 p3 μ w4_6 w6_6) = f_X11_weight_l6_126 p1 p2 p3 μ w4_6 w6_6 v6_126 t0_126 t1_126 → ∀ (ls : Array Slot), lv_has ls 13 [(0, .ref mo), (1, .int p1), (2, .int p2), (3, .int p3), (6, .int v6_126)] → W p l e R s m args below meth c s.heap [] 0 0 Q (F0 m 126 ls [.long t0_126, .long t1_126]) := by
        intro v6_126 t0_126 t1_126 hf ls hl
        refine lv_ladd hx hb dX11_weight_126 ?_
        refine lv_lstore (lv' := [(4, .long (t1_126 + t0_126)), (0, .ref mo), (1, .int p1), (2, .int p2), (3, .int p3), (6, .int v6_126)]) hx hb dX11_weight_127 hl (by decide) rfl (fun ls hl => ?_)
        refine lv_iinc (v := (v6_126 + 1)) (lv' := [(6, .int (v6_126 + 1)), (4, .long (t1_126 + t0_126)), (0, .ref mo), (1, .int p1), (2, .int p2), (3, .int p3)]) hx hb dX11_weight_129 hl (k := 5) rfl rfl (by decide) rfl (fun ls hl => ?_)
        refine lv_goto (tgt := 6) hx hb dX11_weight_132 (by decide) ?_
        exact kc ((t1_126 + t0_126), (v6_126 + 1)) hf ls (lv_sub hl [2, 3, 4, 5, 1, 0] rfl)
      have J_l6_103 : ∀ (v4_103 : Int64) (v6_103 : Int32) (t0_103 : Int64), (b_X11_weight_6 p1 p2 p3 μ w4_6 w6_6) = f_X11_weight_l6_103 p1 p2 p3 μ w4_6 w6_6 v4_103 v6_103 t0_103 → ∀ (ls : Array Slot), lv_has ls 13 [(0, .ref mo), (1, .int p1), (2, .int p2), (3, .int p3), (4, .long v4_103), (6, .int v6_103)] → W p l e R s m args below meth c s.heap [] 0 0 Q (F0 m 103 ls [.long t0_103]) := by
        intro v4_103 v6_103 t0_103 hf ls hl
        refine lv_lstore (lv' := [(11, .long t0_103), (0, .ref mo), (1, .int p1), (2, .int p2), (3, .int p3), (4, .long v4_103), (6, .int v6_103)]) hx hb dX11_weight_103 hl (by decide) rfl (fun ls hl => ?_)
        refine lv_lload hx hb dX11_weight_105 (lv_at hl 5 rfl) ?_
        refine lv_lload hx hb dX11_weight_107 (lv_at hl 0 rfl) ?_
        refine lv_ldc2 (v := 8) hx hb hown (hts _ q_1522) dX11_weight_109 ?_
        refine W.lcmp hx hb dX11_weight_112 ?_
        refine lv_if_ge (tgt := 125) hx hb dX11_weight_113 (by decide) (fun c_9 => ?_) (fun c_9 => ?_)
        · have hf := hf.trans (if_pos c_9)
          refine lv_lconst (v := 0) hx hb dX11_weight_125 (by decide) ?_
          exact J_l6_126 v6_103 0 v4_103 hf ls (lv_sub hl [1, 2, 3, 4, 6] rfl)
        · have hf := hf.trans (if_neg c_9)
          refine lv_ldc2 (v := 8) hx hb hown (hts _ q_1522) dX11_weight_116 ?_
          refine lv_lload hx hb dX11_weight_119 (lv_at hl 0 rfl) ?_
          refine lv_lsub hx hb dX11_weight_121 ?_
          refine lv_goto (tgt := 126) hx hb dX11_weight_122 (by decide) ?_
          exact J_l6_126 v6_103 (8 - t0_103) v4_103 hf ls (lv_sub hl [1, 2, 3, 4, 6] rfl)
      have J_l6_86 : ∀ (v4_86 : Int64) (v6_86 : Int32) (v7_86 : Int64) (t0_86 : Int64), (b_X11_weight_6 p1 p2 p3 μ w4_6 w6_6) = f_X11_weight_l6_86 p1 p2 p3 μ w4_6 w6_6 v4_86 v6_86 v7_86 t0_86 → ∀ (ls : Array Slot), lv_has ls 13 [(0, .ref mo), (1, .int p1), (2, .int p2), (3, .int p3), (4, .long v4_86), (6, .int v6_86), (7, .long v7_86)] → W p l e R s m args below meth c s.heap [] 0 0 Q (F0 m 86 ls [.long t0_86]) := by
        intro v4_86 v6_86 v7_86 t0_86 hf ls hl
        refine lv_lstore (lv' := [(9, .long t0_86), (0, .ref mo), (1, .int p1), (2, .int p2), (3, .int p3), (4, .long v4_86), (6, .int v6_86), (7, .long v7_86)]) hx hb dX11_weight_86 hl (by decide) rfl (fun ls hl => ?_)
        refine lv_lload hx hb dX11_weight_88 (lv_at hl 7 rfl) ?_
        refine lv_lload hx hb dX11_weight_90 (lv_at hl 0 rfl) ?_
        refine W.lcmp hx hb dX11_weight_92 ?_
        refine lv_if_le (tgt := 101) hx hb dX11_weight_93 (by decide) (fun c_8 => ?_) (fun c_8 => ?_)
        · have hf := hf.trans (if_pos c_8)
          refine lv_lload hx hb dX11_weight_101 (lv_at hl 0 rfl) ?_
          exact J_l6_103 v4_86 v6_86 t0_86 hf ls (lv_sub hl [1, 2, 3, 4, 5, 6] rfl)
        · have hf := hf.trans (if_neg c_8)
          refine lv_lload hx hb dX11_weight_96 (lv_at hl 7 rfl) ?_
          refine lv_goto (tgt := 103) hx hb dX11_weight_98 (by decide) ?_
          exact J_l6_103 v4_86 v6_86 v7_86 hf ls (lv_sub hl [1, 2, 3, 4, 5, 6] rfl)
      have J_l6_48 : ∀ (v4_48 : Int64) (v6_48 : Int32) (t0_48 : Int64), (b_X11_weight_6 p1 p2 p3 μ w4_6 w6_6) = f_X11_weight_l6_48 p1 p2 p3 μ w4_6 w6_6 v4_48 v6_48 t0_48 → of_X11_weight_l6_48 p1 p2 p3 μ w4_6 w6_6 v4_48 v6_48 t0_48 → ∀ (ls : Array Slot), lv_has ls 13 [(0, .ref mo), (1, .int p1), (2, .int p2), (3, .int p3), (4, .long v4_48), (6, .int v6_48)] → W p l e R s m args below meth c s.heap [] 0 0 Q (F0 m 48 ls [.long t0_48]) := by
        intro v4_48 v6_48 t0_48 hf hok ls hl
        refine lv_lstore (lv' := [(7, .long t0_48), (0, .ref mo), (1, .int p1), (2, .int p2), (3, .int p3), (4, .long v4_48), (6, .int v6_48)]) hx hb dX11_weight_48 hl (by decide) rfl (fun ls hl => ?_)
        refine lv_aload_n hx hb dX11_weight_50 rfl (lv_at hl 1 rfl) ?_
        refine mg_fallY C hM dX11_weight_51 ?_
        refine lv_iload hx hb dX11_weight_54 (lv_at hl 6 rfl) ?_
        have ok_5 := And.left hok
        have hok := And.right hok
        refine ma_fallY C hM ok_5 dX11_weight_56 ?_
        refine lv_iload_n hx hb dX11_weight_57 rfl (lv_at hl 4 rfl) ?_
        refine lv_i2l (v := p3.toInt64) hx hb dX11_weight_58 rfl ?_
        refine W.lcmp hx hb dX11_weight_59 ?_
        refine lv_if_le (tgt := 76) hx hb dX11_weight_60 (by decide) (fun c_6 => ?_) (fun c_6 => ?_)
        · have hf := hf.trans (if_pos c_6)
          have hok := oif_pos hok c_6
          refine lv_iload_n hx hb dX11_weight_76 rfl (lv_at hl 4 rfl) ?_
          refine lv_i2l (v := p3.toInt64) hx hb dX11_weight_77 rfl ?_
          refine lv_aload_n hx hb dX11_weight_78 rfl (lv_at hl 1 rfl) ?_
          refine mg_fallY C hM dX11_weight_79 ?_
          refine lv_iload hx hb dX11_weight_82 (lv_at hl 6 rfl) ?_
          have ok_7 := And.left hok
          have hok := And.right hok
          refine ma_fallY C hM ok_7 dX11_weight_84 ?_
          refine lv_lsub hx hb dX11_weight_85 ?_
          exact J_l6_86 v4_48 v6_48 t0_48 (p3.toInt64 - (ml μ 45 (ix v6_48))) hf ls (lv_sub hl [1, 2, 3, 4, 5, 6, 0] rfl)
        · have hf := hf.trans (if_neg c_6)
          have hok := oif_neg hok c_6
          refine lv_aload_n hx hb dX11_weight_63 rfl (lv_at hl 1 rfl) ?_
          refine mg_fallY C hM dX11_weight_64 ?_
          refine lv_iload hx hb dX11_weight_67 (lv_at hl 6 rfl) ?_
          have ok_10 := And.left hok
          have hok := And.right hok
          refine ma_fallY C hM ok_10 dX11_weight_69 ?_
          refine lv_iload_n hx hb dX11_weight_70 rfl (lv_at hl 4 rfl) ?_
          refine lv_i2l (v := p3.toInt64) hx hb dX11_weight_71 rfl ?_
          refine lv_lsub hx hb dX11_weight_72 ?_
          refine lv_goto (tgt := 86) hx hb dX11_weight_73 (by decide) ?_
          exact J_l6_86 v4_48 v6_48 t0_48 ((ml μ 45 (ix v6_48)) - p3.toInt64) hf ls (lv_sub hl [1, 2, 3, 4, 5, 6, 0] rfl)
      refine lv_iload hx hb dX11_weight_6 (lv_at hl 5 rfl) ?_
      refine lv_iconst (v := 5) hx hb dX11_weight_8 (by decide) ?_
      refine lv_icmp_ge (tgt := 135) hx hb dX11_weight_9 (by decide) (fun c_1 => ?_) (fun c_1 => ?_)
      · have hf := hf.trans (if_pos c_1)
        have hok := oif_pos hok c_1
        exact ke (w4_6, w6_6) hf ls (lv_sub hl [0, 1, 2, 3, 4] rfl)
      · have hf := hf.trans (if_neg c_1)
        have hok := oif_neg hok c_1
        refine lv_aload_n hx hb dX11_weight_12 rfl (lv_at hl 0 rfl) ?_
        refine mg_fallX C hM dX11_weight_13 ?_
        refine lv_iload hx hb dX11_weight_16 (lv_at hl 5 rfl) ?_
        have ok_2 := And.left hok
        have hok := And.right hok
        refine ma_fallX C hM ok_2 dX11_weight_18 ?_
        refine lv_iload_n hx hb dX11_weight_19 rfl (lv_at hl 2 rfl) ?_
        refine lv_i2l (v := p2.toInt64) hx hb dX11_weight_20 rfl ?_
        refine W.lcmp hx hb dX11_weight_21 ?_
        refine lv_if_le (tgt := 38) hx hb dX11_weight_22 (by decide) (fun c_3 => ?_) (fun c_3 => ?_)
        · have hf := hf.trans (if_pos c_3)
          have hok := oif_pos hok c_3
          refine lv_iload_n hx hb dX11_weight_38 rfl (lv_at hl 2 rfl) ?_
          refine lv_i2l (v := p2.toInt64) hx hb dX11_weight_39 rfl ?_
          refine lv_aload_n hx hb dX11_weight_40 rfl (lv_at hl 0 rfl) ?_
          refine mg_fallX C hM dX11_weight_41 ?_
          refine lv_iload hx hb dX11_weight_44 (lv_at hl 5 rfl) ?_
          have ok_4 := And.left hok
          have hok := And.right hok
          refine ma_fallX C hM ok_4 dX11_weight_46 ?_
          refine lv_lsub hx hb dX11_weight_47 ?_
          exact J_l6_48 w4_6 w6_6 (p2.toInt64 - (ml μ 44 (ix w6_6))) hf hok ls (lv_sub hl [0, 1, 2, 3, 4, 5] rfl)
        · have hf := hf.trans (if_neg c_3)
          have hok := oif_neg hok c_3
          refine lv_aload_n hx hb dX11_weight_25 rfl (lv_at hl 0 rfl) ?_
          refine mg_fallX C hM dX11_weight_26 ?_
          refine lv_iload hx hb dX11_weight_29 (lv_at hl 5 rfl) ?_
          have ok_11 := And.left hok
          have hok := And.right hok
          refine ma_fallX C hM ok_11 dX11_weight_31 ?_
          refine lv_iload_n hx hb dX11_weight_32 rfl (lv_at hl 2 rfl) ?_
          refine lv_i2l (v := p2.toInt64) hx hb dX11_weight_33 rfl ?_
          refine lv_lsub hx hb dX11_weight_34 ?_
          refine lv_goto (tgt := 48) hx hb dX11_weight_35 (by decide) ?_
          exact J_l6_48 w4_6 w6_6 ((ml μ 44 (ix w6_6)) - p2.toInt64) hf hok ls (lv_sub hl [0, 1, 2, 3, 4, 5] rfl)
    · have hok := And.right hok
      intro ls hl
      exact J_135 ((itr (s_X11_weight_6 p1 p2 p3 μ) FU (v4_6, v6_6)).1) hf hok ls (lv_sub hl [0, 1, 2, 3, 4] rfl)
  refine lv_lconst (v := 0) hx hb dX11_weight_0 (by decide) ?_
  refine lv_lstore (lv' := [(4, .long 0), (0, .ref mo), (1, .int p1), (2, .int p2), (3, .int p3)]) hx hb dX11_weight_1 hl (by decide) rfl (fun ls hl => ?_)
  refine lv_iconst (v := 0) hx hb dX11_weight_3 (by decide) ?_
  refine lv_istore (lv' := [(6, .int 0), (4, .long 0), (0, .ref mo), (1, .int p1), (2, .int p2), (3, .int p3)]) hx hb dX11_weight_4 hl (by decide) rfl (fun ls hl => ?_)
  exact J_6 0 0 hf hok ls (lv_sub hl [2, 3, 4, 5, 1, 0] rfl)
def b_X11_chanceOf_21 (p1 : Int32) (p2 : Int32) (p3 : Int32) (v6_21 : Int32) (μ_11 : MS) (w4_21 : Int64) (w7_21 : Int32) : Bool × (Int64 × Int32) := (if 100 ≤ w7_21 then (false, (w4_21, w7_21)) else (true, ((w4_21 + (f_X11_weight μ_11 p1 v6_21 w7_21)), (w7_21 + 1))))
def ob_X11_chanceOf_21 (p1 : Int32) (p2 : Int32) (p3 : Int32) (v6_21 : Int32) (μ_11 : MS) (w4_21 : Int64) (w7_21 : Int32) : Prop := (oif (100 ≤ w7_21) True (of_X11_weight μ_11 p1 v6_21 w7_21 ∧ True))
def s_X11_chanceOf_21 (p1 : Int32) (p2 : Int32) (p3 : Int32) (v6_21 : Int32) (μ_11 : MS) (v : Int64 × Int32) : Bool × (Int64 × Int32) := b_X11_chanceOf_21 p1 p2 p3 v6_21 μ_11 v.1 v.2
def os_X11_chanceOf_21 (p1 : Int32) (p2 : Int32) (p3 : Int32) (v6_21 : Int32) (μ_11 : MS) (v : Int64 × Int32) : Prop := ob_X11_chanceOf_21 p1 p2 p3 v6_21 μ_11 v.1 v.2
def f_X11_chanceOf_l11_48 (p1 : Int32) (p2 : Int32) (p3 : Int32) (μ_11 : MS) (w4_11 : Int64) (w6_11 : Int32) (v4_48 : Int64) (v6_48 : Int32) : Bool × (Int64 × Int32) := (true, (v4_48, (v6_48 + 1)))
def f_X11_chanceOf_l11_21 (p1 : Int32) (p2 : Int32) (p3 : Int32) (μ_11 : MS) (w4_11 : Int64) (w6_11 : Int32) (v4_21 : Int64) (v6_21 : Int32) (v7_21 : Int32) : Bool × (Int64 × Int32) := (f_X11_chanceOf_l11_48 p1 p2 p3 μ_11 w4_11 w6_11 ((itr (s_X11_chanceOf_21 p1 p2 p3 v6_21 μ_11) FU (v4_21, v7_21)).1) v6_21)
def of_X11_chanceOf_l11_21 (p1 : Int32) (p2 : Int32) (p3 : Int32) (μ_11 : MS) (w4_11 : Int64) (w6_11 : Int32) (v4_21 : Int64) (v6_21 : Int32) (v7_21 : Int32) : Prop := (ito (s_X11_chanceOf_21 p1 p2 p3 v6_21 μ_11) (os_X11_chanceOf_21 p1 p2 p3 v6_21 μ_11) FU (v4_21, v7_21) ∧ True)
def b_X11_chanceOf_11 (p1 : Int32) (p2 : Int32) (p3 : Int32) (μ_11 : MS) (w4_11 : Int64) (w6_11 : Int32) : Bool × (Int64 × Int32) := (if 100 ≤ w6_11 then (false, (w4_11, w6_11)) else (f_X11_chanceOf_l11_21 p1 p2 p3 μ_11 w4_11 w6_11 w4_11 w6_11 0))
def ob_X11_chanceOf_11 (p1 : Int32) (p2 : Int32) (p3 : Int32) (μ_11 : MS) (w4_11 : Int64) (w6_11 : Int32) : Prop := (oif (100 ≤ w6_11) True (of_X11_chanceOf_l11_21 p1 p2 p3 μ_11 w4_11 w6_11 w4_11 w6_11 0))
def s_X11_chanceOf_11 (p1 : Int32) (p2 : Int32) (p3 : Int32) (μ_11 : MS) (v : Int64 × Int32) : Bool × (Int64 × Int32) := b_X11_chanceOf_11 p1 p2 p3 μ_11 v.1 v.2
def os_X11_chanceOf_11 (p1 : Int32) (p2 : Int32) (p3 : Int32) (μ_11 : MS) (v : Int64 × Int32) : Prop := ob_X11_chanceOf_11 p1 p2 p3 μ_11 v.1 v.2
def f_X11_chanceOf_54 (μ : MS) (p1 : Int32) (p2 : Int32) (p3 : Int32) (v4_54 : Int64) (μ_54 : MS) : Int64 × MS := (if (lg_cmp v4_54 0) = 0 then (0, μ_54) else ((((f_X11_weight μ_54 p1 p2 p3) * 1000000) / v4_54), μ_54))
def of_X11_chanceOf_54 (μ : MS) (p1 : Int32) (p2 : Int32) (p3 : Int32) (v4_54 : Int64) (μ_54 : MS) : Prop := (oif ((lg_cmp v4_54 0) = 0) True (of_X11_weight μ_54 p1 p2 p3 ∧ (¬ v4_54 = 0 ∧ True)))
def f_X11_chanceOf_11 (μ : MS) (p1 : Int32) (p2 : Int32) (p3 : Int32) (v4_11 : Int64) (v6_11 : Int32) (μ_11 : MS) : Int64 × MS := (f_X11_chanceOf_54 μ p1 p2 p3 ((itr (s_X11_chanceOf_11 p1 p2 p3 μ_11) FU (v4_11, v6_11)).1) μ_11)
def of_X11_chanceOf_11 (μ : MS) (p1 : Int32) (p2 : Int32) (p3 : Int32) (v4_11 : Int64) (v6_11 : Int32) (μ_11 : MS) : Prop := (ito (s_X11_chanceOf_11 p1 p2 p3 μ_11) (os_X11_chanceOf_11 p1 p2 p3 μ_11) FU (v4_11, v6_11) ∧ (of_X11_chanceOf_54 μ p1 p2 p3 ((itr (s_X11_chanceOf_11 p1 p2 p3 μ_11) FU (v4_11, v6_11)).1) μ_11))
def f_X11_chanceOf_5 (μ : MS) (p1 : Int32) (p2 : Int32) (p3 : Int32) (μ_5 : MS) : Int64 × MS := (f_X11_chanceOf_11 μ p1 p2 p3 0 0 μ_5)
def of_X11_chanceOf_5 (μ : MS) (p1 : Int32) (p2 : Int32) (p3 : Int32) (μ_5 : MS) : Prop := (of_X11_chanceOf_11 μ p1 p2 p3 0 0 μ_5)
def f_X11_chanceOf (μ : MS) (p1 : Int32) (p2 : Int32) (p3 : Int32) : Int64 × MS := (f_X11_chanceOf_5 μ p1 p2 p3 (f_X11_falls μ p1))
def of_X11_chanceOf (μ : MS) (p1 : Int32) (p2 : Int32) (p3 : Int32) : Prop := (of_X11_falls μ p1 ∧ (of_X11_chanceOf_5 μ p1 p2 p3 (f_X11_falls μ p1)))
set_option maxHeartbeats 4000000 in
set_option maxRecDepth 100000 in
theorem k_X11_chanceOf (l : Launch) (D : va_G) (a : Nat → ClassId) (mo : Nat) (μ : MS) (p1 : Int32) (p2 : Int32) (p3 : Int32) (hok : of_X11_chanceOf μ p1 p2 p3) : KM l D a mo yX11_chanceOf cX11_chanceOf 8 ((some .long)) 6 158 [.int p1, .int p2, .int p3] μ (some (.long (f_X11_chanceOf μ p1 p2 p3).1)) (f_X11_chanceOf μ p1 p2 p3).2 := by
  refine goMl (by decide +kernel) (Nat.le_of_ble_eq_true rfl) ?_
  intro p e s m args below meth c ls R Q hRf hRl C hl hB
  obtain ⟨hM, ret⟩ := hB
  have hl : lv_has ls 8 [(0, .ref mo), (1, .int p1), (2, .int p2), (3, .int p3)] := hl
  have hx := C.1.1
  have hb := C.1.2.1
  have hts := C.1.2.2.2.2
  have hown := C.1.2.2.2.1
  have hf : (f_X11_chanceOf μ p1 p2 p3) = (f_X11_chanceOf μ p1 p2 p3) := rfl
  have J_54 : ∀ (v4_54 : Int64) (μ_54 : MS), (f_X11_chanceOf μ p1 p2 p3) = f_X11_chanceOf_54 μ p1 p2 p3 v4_54 μ_54 → of_X11_chanceOf_54 μ p1 p2 p3 v4_54 μ_54 → ∀ (H : Heap) (locs : List Loc) (ls : Array Slot), HM D a mo μ_54 s.heap H locs → lv_has ls 8 [(0, .ref mo), (1, .int p1), (2, .int p2), (3, .int p3), (4, .long v4_54)] → W p l e R s m args below meth c H locs 0 0 Q (F0 m 54 ls []) := by
    intro v4_54 μ_54 hf hok H locs ls hM hl
    refine lv_lload hx hb dX11_chanceOf_54 (lv_at hl 4 rfl) ?_
    refine lv_lconst (v := 0) hx hb dX11_chanceOf_56 (by decide) ?_
    refine W.lcmp hx hb dX11_chanceOf_57 ?_
    refine lv_if_ne (tgt := 65) hx hb dX11_chanceOf_58 (by decide) (fun c_5 => ?_) (fun c_5 => ?_)
    · have hf := hf.trans (if_neg c_5)
      have hok := oif_neg hok c_5
      refine lv_aload_n hx hb dX11_chanceOf_65 rfl (lv_at hl 0 rfl) ?_
      refine lv_iload_n hx hb dX11_chanceOf_66 rfl (lv_at hl 1 rfl) ?_
      refine lv_iload_n hx hb dX11_chanceOf_67 rfl (lv_at hl 2 rfl) ?_
      refine lv_iload_n hx hb dX11_chanceOf_68 rfl (lv_at hl 3 rfl) ?_
      have ok_6 := And.left hok
      have hok := And.right hok
      refine cc_R (av := [.int p1, .int p2, .int p3]) C hM (k_X11_weight l D a mo μ_54 p1 p2 p3 ok_6) cw_X11_292 (okR_of hRf hRl (Nat.le_of_ble_eq_true rfl) (Nat.le_of_ble_eq_true rfl)) rfl rfl hl.1 (Nat.le_of_ble_eq_true rfl) (Nat.zero_le _) (Nat.zero_le _) dX11_chanceOf_69 ?_
      refine lv_ldc2 (v := 1000000) hx hb hown (hts _ q_1523) dX11_chanceOf_72 ?_
      refine lv_lmul hx hb dX11_chanceOf_75 ?_
      refine lv_lload hx hb dX11_chanceOf_76 (lv_at hl 4 rfl) ?_
      have ok_7 := And.left hok
      have hok := And.right hok
      refine lv_ldiv hx hb dX11_chanceOf_78 ok_7 ?_
      exact ret _ _ _ _ _ _ hM dX11_chanceOf_79 hf
    · have hf := hf.trans (if_pos c_5)
      have hok := oif_pos hok c_5
      refine lv_lconst (v := 0) hx hb dX11_chanceOf_61 (by decide) ?_
      refine lv_goto (tgt := 79) hx hb dX11_chanceOf_62 (by decide) ?_
      exact ret _ _ _ _ _ _ hM dX11_chanceOf_79 hf
  have J_11 : ∀ (v4_11 : Int64) (v6_11 : Int32) (μ_11 : MS), (f_X11_chanceOf μ p1 p2 p3) = f_X11_chanceOf_11 μ p1 p2 p3 v4_11 v6_11 μ_11 → of_X11_chanceOf_11 μ p1 p2 p3 v4_11 v6_11 μ_11 → ∀ (H : Heap) (locs : List Loc) (ls : Array Slot), HM D a mo μ_11 s.heap H locs → lv_has ls 8 [(0, .ref mo), (1, .int p1), (2, .int p2), (3, .int p3), (4, .long v4_11), (6, .int v6_11)] → W p l e R s m args below meth c H locs 0 0 Q (F0 m 11 ls []) := by
    intro v4_11 v6_11 μ_11 hf hok H locs ls hM hl
    refine itr_W (f := (s_X11_chanceOf_11 p1 p2 p3 μ_11)) (o := (os_X11_chanceOf_11 p1 p2 p3 μ_11)) (fun (v : Int64 × Int32) => ∀ (ls : Array Slot), lv_has ls 8 [(0, .ref mo), (1, .int p1), (2, .int p2), (3, .int p3), (4, .long v.1), (6, .int v.2)] → W p l e R s m args below meth c H locs 0 0 Q (F0 m 11 ls [])) (fun (v : Int64 × Int32) => ∀ (ls : Array Slot), lv_has ls 8 [(0, .ref mo), (1, .int p1), (2, .int p2), (3, .int p3), (4, .long v.1)] → W p l e R s m args below meth c H locs 0 0 Q (F0 m 54 ls [])) ?_ FU (v4_11, v6_11) (And.left hok) ?_ ls (lv_sub hl [0, 1, 2, 3, 4, 5] rfl)
    · intro v hov kc ke
      obtain ⟨w4_11, w6_11⟩ := v
      have hok : ob_X11_chanceOf_11 p1 p2 p3 μ_11 w4_11 w6_11 := hov
      change ∀ v', (b_X11_chanceOf_11 p1 p2 p3 μ_11 w4_11 w6_11) = (true, v') → _ at kc
      change ∀ v', (b_X11_chanceOf_11 p1 p2 p3 μ_11 w4_11 w6_11) = (false, v') → _ at ke
      have hf : (b_X11_chanceOf_11 p1 p2 p3 μ_11 w4_11 w6_11) = (b_X11_chanceOf_11 p1 p2 p3 μ_11 w4_11 w6_11) := rfl
      intro ls hl
      have J_l11_48 : ∀ (v4_48 : Int64) (v6_48 : Int32), (b_X11_chanceOf_11 p1 p2 p3 μ_11 w4_11 w6_11) = f_X11_chanceOf_l11_48 p1 p2 p3 μ_11 w4_11 w6_11 v4_48 v6_48 → ∀ (ls : Array Slot), lv_has ls 8 [(0, .ref mo), (1, .int p1), (2, .int p2), (3, .int p3), (4, .long v4_48), (6, .int v6_48)] → W p l e R s m args below meth c H locs 0 0 Q (F0 m 48 ls []) := by
        intro v4_48 v6_48 hf ls hl
        refine lv_iinc (v := (v6_48 + 1)) (lv' := [(6, .int (v6_48 + 1)), (0, .ref mo), (1, .int p1), (2, .int p2), (3, .int p3), (4, .long v4_48)]) hx hb dX11_chanceOf_48 hl (k := 5) rfl rfl (by decide) rfl (fun ls hl => ?_)
        refine lv_goto (tgt := 11) hx hb dX11_chanceOf_51 (by decide) ?_
        exact kc (v4_48, (v6_48 + 1)) hf ls (lv_sub hl [1, 2, 3, 4, 5, 0] rfl)
      have J_l11_21 : ∀ (v4_21 : Int64) (v6_21 : Int32) (v7_21 : Int32), (b_X11_chanceOf_11 p1 p2 p3 μ_11 w4_11 w6_11) = f_X11_chanceOf_l11_21 p1 p2 p3 μ_11 w4_11 w6_11 v4_21 v6_21 v7_21 → of_X11_chanceOf_l11_21 p1 p2 p3 μ_11 w4_11 w6_11 v4_21 v6_21 v7_21 → ∀ (ls : Array Slot), lv_has ls 8 [(0, .ref mo), (1, .int p1), (2, .int p2), (3, .int p3), (4, .long v4_21), (6, .int v6_21), (7, .int v7_21)] → W p l e R s m args below meth c H locs 0 0 Q (F0 m 21 ls []) := by
        intro v4_21 v6_21 v7_21 hf hok ls hl
        refine itr_W (f := (s_X11_chanceOf_21 p1 p2 p3 v6_21 μ_11)) (o := (os_X11_chanceOf_21 p1 p2 p3 v6_21 μ_11)) (fun (v : Int64 × Int32) => ∀ (ls : Array Slot), lv_has ls 8 [(0, .ref mo), (1, .int p1), (2, .int p2), (3, .int p3), (4, .long v.1), (6, .int v6_21), (7, .int v.2)] → W p l e R s m args below meth c H locs 0 0 Q (F0 m 21 ls [])) (fun (v : Int64 × Int32) => ∀ (ls : Array Slot), lv_has ls 8 [(0, .ref mo), (1, .int p1), (2, .int p2), (3, .int p3), (4, .long v.1), (6, .int v6_21)] → W p l e R s m args below meth c H locs 0 0 Q (F0 m 48 ls [])) ?_ FU (v4_21, v7_21) (And.left hok) ?_ ls (lv_sub hl [0, 1, 2, 3, 4, 5, 6] rfl)
        · intro v hov kc ke
          obtain ⟨w4_21, w7_21⟩ := v
          have hok : ob_X11_chanceOf_21 p1 p2 p3 v6_21 μ_11 w4_21 w7_21 := hov
          change ∀ v', (b_X11_chanceOf_21 p1 p2 p3 v6_21 μ_11 w4_21 w7_21) = (true, v') → _ at kc
          change ∀ v', (b_X11_chanceOf_21 p1 p2 p3 v6_21 μ_11 w4_21 w7_21) = (false, v') → _ at ke
          have hf : (b_X11_chanceOf_21 p1 p2 p3 v6_21 μ_11 w4_21 w7_21) = (b_X11_chanceOf_21 p1 p2 p3 v6_21 μ_11 w4_21 w7_21) := rfl
          intro ls hl
          refine lv_iload hx hb dX11_chanceOf_21 (lv_at hl 6 rfl) ?_
          refine lv_bipush (v := 100) hx hb dX11_chanceOf_23 (by decide) ?_
          refine lv_icmp_ge (tgt := 48) hx hb dX11_chanceOf_25 (by decide) (fun c_3 => ?_) (fun c_3 => ?_)
          · have hf := hf.trans (if_pos c_3)
            have hok := oif_pos hok c_3
            exact ke (w4_21, w7_21) hf ls (lv_sub hl [0, 1, 2, 3, 4, 5] rfl)
          · have hf := hf.trans (if_neg c_3)
            have hok := oif_neg hok c_3
            refine lv_lload hx hb dX11_chanceOf_28 (lv_at hl 4 rfl) ?_
            refine lv_aload_n hx hb dX11_chanceOf_30 rfl (lv_at hl 0 rfl) ?_
            refine lv_iload_n hx hb dX11_chanceOf_31 rfl (lv_at hl 1 rfl) ?_
            refine lv_iload hx hb dX11_chanceOf_32 (lv_at hl 5 rfl) ?_
            refine lv_iload hx hb dX11_chanceOf_34 (lv_at hl 6 rfl) ?_
            have ok_4 := And.left hok
            have hok := And.right hok
            refine cc_R (av := [.int p1, .int v6_21, .int w7_21]) C hM (k_X11_weight l D a mo μ_11 p1 v6_21 w7_21 ok_4) cw_X11_292 (okR_of hRf hRl (Nat.le_of_ble_eq_true rfl) (Nat.le_of_ble_eq_true rfl)) rfl rfl hl.1 (Nat.le_of_ble_eq_true rfl) (Nat.zero_le _) (Nat.zero_le _) dX11_chanceOf_36 ?_
            refine lv_ladd hx hb dX11_chanceOf_39 ?_
            refine lv_lstore (lv' := [(4, .long (w4_21 + (f_X11_weight μ_11 p1 v6_21 w7_21))), (0, .ref mo), (1, .int p1), (2, .int p2), (3, .int p3), (6, .int v6_21), (7, .int w7_21)]) hx hb dX11_chanceOf_40 hl (by decide) rfl (fun ls hl => ?_)
            refine lv_iinc (v := (w7_21 + 1)) (lv' := [(7, .int (w7_21 + 1)), (4, .long (w4_21 + (f_X11_weight μ_11 p1 v6_21 w7_21))), (0, .ref mo), (1, .int p1), (2, .int p2), (3, .int p3), (6, .int v6_21)]) hx hb dX11_chanceOf_42 hl (k := 6) rfl rfl (by decide) rfl (fun ls hl => ?_)
            refine lv_goto (tgt := 21) hx hb dX11_chanceOf_45 (by decide) ?_
            exact kc ((w4_21 + (f_X11_weight μ_11 p1 v6_21 w7_21)), (w7_21 + 1)) hf ls (lv_sub hl [2, 3, 4, 5, 1, 6, 0] rfl)
        · have hok := And.right hok
          intro ls hl
          exact J_l11_48 ((itr (s_X11_chanceOf_21 p1 p2 p3 v6_21 μ_11) FU (v4_21, v7_21)).1) v6_21 hf ls (lv_sub hl [0, 1, 2, 3, 4, 5] rfl)
      refine lv_iload hx hb dX11_chanceOf_11 (lv_at hl 5 rfl) ?_
      refine lv_bipush (v := 100) hx hb dX11_chanceOf_13 (by decide) ?_
      refine lv_icmp_ge (tgt := 54) hx hb dX11_chanceOf_15 (by decide) (fun c_2 => ?_) (fun c_2 => ?_)
      · have hf := hf.trans (if_pos c_2)
        have hok := oif_pos hok c_2
        exact ke (w4_11, w6_11) hf ls (lv_sub hl [0, 1, 2, 3, 4] rfl)
      · have hf := hf.trans (if_neg c_2)
        have hok := oif_neg hok c_2
        refine lv_iconst (v := 0) hx hb dX11_chanceOf_18 (by decide) ?_
        refine lv_istore (lv' := [(7, .int 0), (0, .ref mo), (1, .int p1), (2, .int p2), (3, .int p3), (4, .long w4_11), (6, .int w6_11)]) hx hb dX11_chanceOf_19 hl (by decide) rfl (fun ls hl => ?_)
        exact J_l11_21 w4_11 w6_11 0 hf hok ls (lv_sub hl [1, 2, 3, 4, 5, 6, 0] rfl)
    · have hok := And.right hok
      intro ls hl
      exact J_54 ((itr (s_X11_chanceOf_11 p1 p2 p3 μ_11) FU (v4_11, v6_11)).1) μ_11 hf hok _ _ ls hM (lv_sub hl [0, 1, 2, 3, 4] rfl)
  have J_5 : ∀ (μ_5 : MS), (f_X11_chanceOf μ p1 p2 p3) = f_X11_chanceOf_5 μ p1 p2 p3 μ_5 → of_X11_chanceOf_5 μ p1 p2 p3 μ_5 → ∀ (H : Heap) (locs : List Loc) (ls : Array Slot), HM D a mo μ_5 s.heap H locs → lv_has ls 8 [(0, .ref mo), (1, .int p1), (2, .int p2), (3, .int p3)] → W p l e R s m args below meth c H locs 0 0 Q (F0 m 5 ls []) := by
    intro μ_5 hf hok H locs ls hM hl
    refine lv_lconst (v := 0) hx hb dX11_chanceOf_5 (by decide) ?_
    refine lv_lstore (lv' := [(4, .long 0), (0, .ref mo), (1, .int p1), (2, .int p2), (3, .int p3)]) hx hb dX11_chanceOf_6 hl (by decide) rfl (fun ls hl => ?_)
    refine lv_iconst (v := 0) hx hb dX11_chanceOf_8 (by decide) ?_
    refine lv_istore (lv' := [(6, .int 0), (4, .long 0), (0, .ref mo), (1, .int p1), (2, .int p2), (3, .int p3)]) hx hb dX11_chanceOf_9 hl (by decide) rfl (fun ls hl => ?_)
    exact J_11 0 0 μ_5 hf hok _ _ ls hM (lv_sub hl [2, 3, 4, 5, 1, 0] rfl)
  refine lv_aload_n hx hb dX11_chanceOf_0 rfl (lv_at hl 0 rfl) ?_
  refine lv_iload_n hx hb dX11_chanceOf_1 rfl (lv_at hl 1 rfl) ?_
  have ok_1 := And.left hok
  have hok := And.right hok
  refine cc_M (av := [.int p1]) C hM (k_X11_falls l D a mo μ p1 ok_1) cw_X11_289 (okR_of hRf hRl (Nat.le_of_ble_eq_true rfl) (Nat.le_of_ble_eq_true rfl)) rfl rfl hl.1 (Nat.le_of_ble_eq_true rfl) (Nat.zero_le _) (Nat.zero_le _) dX11_chanceOf_2 (fun H locs hM => ?_)
  exact J_5 (f_X11_falls μ p1) hf hok _ _ ls hM (lv_sub hl [0, 1, 2, 3] rfl)
def f_X11_isCell (p1 : Int32) (p2 : Int32) : Int32 := (if (f_X11_isIn p1 0 99) = 0 then 0 else (if (f_X11_isIn p2 0 99) = 0 then 0 else 1))
set_option maxHeartbeats 4000000 in
set_option maxRecDepth 100000 in
theorem k_X11_isCell (l : Launch) (D : va_G) (a : Nat → ClassId) (p1 : Int32) (p2 : Int32) : K0 l yX11_isCell cX11_isCell 2 ((some .boolean)) 1 22 [.int p1, .int p2] (BK D a) (.int (f_X11_isCell p1 p2)) := by
  refine go0z (D := D) (a := a) (by decide +kernel) (fun _ h => h) (Nat.le_of_ble_eq_true rfl) ?_
  intro p e s m args below meth c ls R Q hRf hRl C hl hB
  obtain ⟨-, ret⟩ := hB
  have hl : lv_has ls 2 [(0, .int p1), (1, .int p2)] := hl
  have hx := C.1.1
  have hb := C.1.2.1
  have hts := C.1.2.2.2.2
  have hown := C.1.2.2.2.1
  have hf : (f_X11_isCell p1 p2) = (f_X11_isCell p1 p2) := rfl
  refine lv_iload_n hx hb dX11_isCell_0 rfl (lv_at hl 0 rfl) ?_
  refine lv_iconst (v := 0) hx hb dX11_isCell_1 (by decide) ?_
  refine lv_bipush (v := 99) hx hb dX11_isCell_2 (by decide) ?_
  refine cc_S (av := [.int p1, .int 0, .int 99]) C (k_X11_isIn l D a p1 0 99) cw_X11_158 (okR_of hRf hRl (Nat.le_of_ble_eq_true rfl) (Nat.le_of_ble_eq_true rfl)) rfl rfl hl.1 (Nat.le_of_ble_eq_true rfl) (Nat.zero_le _) (Nat.zero_le _) dX11_isCell_4 ?_
  refine lv_if_eq (tgt := 24) hx hb dX11_isCell_7 (by decide) (fun c_1 => ?_) (fun c_1 => ?_)
  · have hf := hf.trans (if_pos c_1)
    refine lv_iconst (v := 0) hx hb dX11_isCell_24 (by decide) ?_
    exact ret _ _ _ dX11_isCell_25 (by unfold zb; decide) hf
  · have hf := hf.trans (if_neg c_1)
    refine lv_iload_n hx hb dX11_isCell_10 rfl (lv_at hl 1 rfl) ?_
    refine lv_iconst (v := 0) hx hb dX11_isCell_11 (by decide) ?_
    refine lv_bipush (v := 99) hx hb dX11_isCell_12 (by decide) ?_
    refine cc_S (av := [.int p2, .int 0, .int 99]) C (k_X11_isIn l D a p2 0 99) cw_X11_158 (okR_of hRf hRl (Nat.le_of_ble_eq_true rfl) (Nat.le_of_ble_eq_true rfl)) rfl rfl hl.1 (Nat.le_of_ble_eq_true rfl) (Nat.zero_le _) (Nat.zero_le _) dX11_isCell_14 ?_
    refine lv_if_eq (tgt := 24) hx hb dX11_isCell_17 (by decide) (fun c_2 => ?_) (fun c_2 => ?_)
    · have hf := hf.trans (if_pos c_2)
      refine lv_iconst (v := 0) hx hb dX11_isCell_24 (by decide) ?_
      exact ret _ _ _ dX11_isCell_25 (by unfold zb; decide) hf
    · have hf := hf.trans (if_neg c_2)
      refine lv_iconst (v := 1) hx hb dX11_isCell_20 (by decide) ?_
      refine lv_goto (tgt := 25) hx hb dX11_isCell_21 (by decide) ?_
      exact ret _ _ _ dX11_isCell_25 (by unfold zb; decide) hf
def f_X11_walk_119 (μ : MS) (p1 : Int32) (p2 : Int32) (p3 : Int32) (p4 : Int32) (μ_119 : MS) : Int64 × MS := ((f_X11_chanceOf (mI μ_119 39 0 ((mi μ_119 39 0) + 1)) p1 p2 p3).1, (f_X11_chanceOf (mI μ_119 39 0 ((mi μ_119 39 0) + 1)) p1 p2 p3).2)
def of_X11_walk_119 (μ : MS) (p1 : Int32) (p2 : Int32) (p3 : Int32) (p4 : Int32) (μ_119 : MS) : Prop := (of_X11_chanceOf (mI μ_119 39 0 ((mi μ_119 39 0) + 1)) p1 p2 p3 ∧ True)
def f_X11_walk_66 (μ : MS) (p1 : Int32) (p2 : Int32) (p3 : Int32) (p4 : Int32) (t0_66 : Int32) (μ_66 : MS) : Int64 × MS := (if t0_66 ≤ 0 then (f_X11_walk_119 μ p1 p2 p3 p4 (mI (mI (mI (mI (mI μ_66 0 0 t0_66) 40 (ix (mi μ_66 39 0)) p1) 41 (ix (mi μ_66 39 0)) p2) 42 (ix (mi μ_66 39 0)) p3) 43 (ix (mi μ_66 39 0)) p4)) else (0, (mI μ_66 0 0 t0_66)))
def of_X11_walk_66 (μ : MS) (p1 : Int32) (p2 : Int32) (p3 : Int32) (p4 : Int32) (t0_66 : Int32) (μ_66 : MS) : Prop := (oif (t0_66 ≤ 0) (vp_in (mi μ_66 39 0) 60 ∧ (vp_in (mi μ_66 39 0) 60 ∧ (vp_in (mi μ_66 39 0) 60 ∧ (vp_in (mi μ_66 39 0) 60 ∧ (of_X11_walk_119 μ p1 p2 p3 p4 (mI (mI (mI (mI (mI μ_66 0 0 t0_66) 40 (ix (mi μ_66 39 0)) p1) 41 (ix (mi μ_66 39 0)) p2) 42 (ix (mi μ_66 39 0)) p3) 43 (ix (mi μ_66 39 0)) p4)))))) True)
def f_X11_walk_28 (μ : MS) (p1 : Int32) (p2 : Int32) (p3 : Int32) (p4 : Int32) (t0_28 : Int32) (μ_28 : MS) : Int64 × MS := (if (f_X11_isFireball μ_28 p1) = 0 then (f_X11_walk_66 μ p1 p2 p3 p4 1 μ_28) else (if t0_28 = 0 then (f_X11_walk_66 μ p1 p2 p3 p4 2 μ_28) else (if (mi μ_28 39 0) = 60 then (f_X11_walk_66 μ p1 p2 p3 p4 3 μ_28) else (f_X11_walk_66 μ p1 p2 p3 p4 0 μ_28))))
def of_X11_walk_28 (μ : MS) (p1 : Int32) (p2 : Int32) (p3 : Int32) (p4 : Int32) (t0_28 : Int32) (μ_28 : MS) : Prop := (of_X11_isFireball μ_28 p1 ∧ (oif ((f_X11_isFireball μ_28 p1) = 0) (of_X11_walk_66 μ p1 p2 p3 p4 1 μ_28) (oif (t0_28 = 0) (of_X11_walk_66 μ p1 p2 p3 p4 2 μ_28) (oif ((mi μ_28 39 0) = 60) (of_X11_walk_66 μ p1 p2 p3 p4 3 μ_28) (of_X11_walk_66 μ p1 p2 p3 p4 0 μ_28)))))
def f_X11_walk_4 (μ : MS) (p1 : Int32) (p2 : Int32) (p3 : Int32) (p4 : Int32) (μ_4 : MS) : Int64 × MS := (if (f_X11_isCell p2 p3) = 0 then (f_X11_walk_28 μ p1 p2 p3 p4 0 μ_4) else (if (f_X11_isIn p4 1 100) = 0 then (f_X11_walk_28 μ p1 p2 p3 p4 0 μ_4) else (f_X11_walk_28 μ p1 p2 p3 p4 1 μ_4)))
def of_X11_walk_4 (μ : MS) (p1 : Int32) (p2 : Int32) (p3 : Int32) (p4 : Int32) (μ_4 : MS) : Prop := (oif ((f_X11_isCell p2 p3) = 0) (of_X11_walk_28 μ p1 p2 p3 p4 0 μ_4) (oif ((f_X11_isIn p4 1 100) = 0) (of_X11_walk_28 μ p1 p2 p3 p4 0 μ_4) (of_X11_walk_28 μ p1 p2 p3 p4 1 μ_4)))
def f_X11_walk (μ : MS) (p1 : Int32) (p2 : Int32) (p3 : Int32) (p4 : Int32) : Int64 × MS := (f_X11_walk_4 μ p1 p2 p3 p4 (f_X11_spreads μ))
def of_X11_walk (μ : MS) (p1 : Int32) (p2 : Int32) (p3 : Int32) (p4 : Int32) : Prop := (of_X11_spreads μ ∧ (of_X11_walk_4 μ p1 p2 p3 p4 (f_X11_spreads μ)))
set_option maxHeartbeats 4000000 in
set_option maxRecDepth 100000 in
theorem k_X11_walk (l : Launch) (D : va_G) (a : Nat → ClassId) (mo : Nat) (μ : MS) (p1 : Int32) (p2 : Int32) (p3 : Int32) (p4 : Int32) (hok : of_X11_walk μ p1 p2 p3 p4) : KM l D a mo yX11_walk cX11_walk 6 ((some .long)) 7 185 [.int p1, .int p2, .int p3, .int p4] μ (some (.long (f_X11_walk μ p1 p2 p3 p4).1)) (f_X11_walk μ p1 p2 p3 p4).2 := by
  refine goMl (by decide +kernel) (Nat.le_of_ble_eq_true rfl) ?_
  intro p e s m args below meth c ls R Q hRf hRl C hl hB
  obtain ⟨hM, ret⟩ := hB
  have hl : lv_has ls 6 [(0, .ref mo), (1, .int p1), (2, .int p2), (3, .int p3), (4, .int p4)] := hl
  have hx := C.1.1
  have hb := C.1.2.1
  have hts := C.1.2.2.2.2
  have hown := C.1.2.2.2.1
  have hf : (f_X11_walk μ p1 p2 p3 p4) = (f_X11_walk μ p1 p2 p3 p4) := rfl
  have J_119 : ∀ (μ_119 : MS), (f_X11_walk μ p1 p2 p3 p4) = f_X11_walk_119 μ p1 p2 p3 p4 μ_119 → of_X11_walk_119 μ p1 p2 p3 p4 μ_119 → ∀ (H : Heap) (locs : List Loc) (ls : Array Slot), HM D a mo μ_119 s.heap H locs → lv_has ls 6 [(0, .ref mo), (1, .int p1), (2, .int p2), (3, .int p3)] → W p l e R s m args below meth c H locs 0 0 Q (F0 m 119 ls []) := by
    intro μ_119 hf hok H locs ls hM hl
    refine lv_aload_n hx hb dX11_walk_119 rfl (lv_at hl 0 rfl) ?_
    refine lv_dup hx hb dX11_walk_120 rfl ?_
    refine mg_walks C hM dX11_walk_121 ?_
    refine lv_iconst (v := 1) hx hb dX11_walk_124 (by decide) ?_
    refine lv_iadd hx hb dX11_walk_125 ?_
    refine mp_walks C hM dX11_walk_126 (fun H locs hM => ?_)
    refine lv_aload_n hx hb dX11_walk_129 rfl (lv_at hl 0 rfl) ?_
    refine lv_iload_n hx hb dX11_walk_130 rfl (lv_at hl 1 rfl) ?_
    refine lv_iload_n hx hb dX11_walk_131 rfl (lv_at hl 2 rfl) ?_
    refine lv_iload_n hx hb dX11_walk_132 rfl (lv_at hl 3 rfl) ?_
    have ok_12 := And.left hok
    have hok := And.right hok
    refine cc_M (av := [.int p1, .int p2, .int p3]) C hM (k_X11_chanceOf l D a mo (mI μ_119 39 0 ((mi μ_119 39 0) + 1)) p1 p2 p3 ok_12) cw_X11_299 (okR_of hRf hRl (Nat.le_of_ble_eq_true rfl) (Nat.le_of_ble_eq_true rfl)) rfl rfl hl.1 (Nat.le_of_ble_eq_true rfl) (Nat.zero_le _) (Nat.zero_le _) dX11_walk_133 (fun H locs hM => ?_)
    exact ret _ _ _ _ _ _ hM dX11_walk_136 hf
  have J_66 : ∀ (t0_66 : Int32) (μ_66 : MS), (f_X11_walk μ p1 p2 p3 p4) = f_X11_walk_66 μ p1 p2 p3 p4 t0_66 μ_66 → of_X11_walk_66 μ p1 p2 p3 p4 t0_66 μ_66 → ∀ (H : Heap) (locs : List Loc) (ls : Array Slot), HM D a mo μ_66 s.heap H locs → lv_has ls 6 [(0, .ref mo), (1, .int p1), (2, .int p2), (3, .int p3), (4, .int p4)] → W p l e R s m args below meth c H locs 0 0 Q (F0 m 66 ls [.int t0_66, .ref mo]) := by
    intro t0_66 μ_66 hf hok H locs ls hM hl
    refine mp_thrown C hM dX11_walk_66 (fun H locs hM => ?_)
    refine lv_aload_n hx hb dX11_walk_69 rfl (lv_at hl 0 rfl) ?_
    refine mg_thrown C hM dX11_walk_70 ?_
    refine lv_if_le (tgt := 78) hx hb dX11_walk_73 (by decide) (fun c_7 => ?_) (fun c_7 => ?_)
    · have hf := hf.trans (if_pos c_7)
      have hok := oif_pos hok c_7
      refine lv_aload_n hx hb dX11_walk_78 rfl (lv_at hl 0 rfl) ?_
      refine mg_walkFireballs C hM dX11_walk_79 ?_
      refine lv_aload_n hx hb dX11_walk_82 rfl (lv_at hl 0 rfl) ?_
      refine mg_walks C hM dX11_walk_83 ?_
      refine lv_iload_n hx hb dX11_walk_86 rfl (lv_at hl 1 rfl) ?_
      have ok_8 := And.left hok
      have hok := And.right hok
      refine ms_walkFireballs C hM ok_8 dX11_walk_87 (fun H locs hM => ?_)
      refine lv_aload_n hx hb dX11_walk_88 rfl (lv_at hl 0 rfl) ?_
      refine mg_walkX C hM dX11_walk_89 ?_
      refine lv_aload_n hx hb dX11_walk_92 rfl (lv_at hl 0 rfl) ?_
      refine mg_walks C hM dX11_walk_93 ?_
      refine lv_iload_n hx hb dX11_walk_96 rfl (lv_at hl 2 rfl) ?_
      have ok_9 := And.left hok
      have hok := And.right hok
      refine ms_walkX C hM ok_9 dX11_walk_97 (fun H locs hM => ?_)
      refine lv_aload_n hx hb dX11_walk_98 rfl (lv_at hl 0 rfl) ?_
      refine mg_walkY C hM dX11_walk_99 ?_
      refine lv_aload_n hx hb dX11_walk_102 rfl (lv_at hl 0 rfl) ?_
      refine mg_walks C hM dX11_walk_103 ?_
      refine lv_iload_n hx hb dX11_walk_106 rfl (lv_at hl 3 rfl) ?_
      have ok_10 := And.left hok
      have hok := And.right hok
      refine ms_walkY C hM ok_10 dX11_walk_107 (fun H locs hM => ?_)
      refine lv_aload_n hx hb dX11_walk_108 rfl (lv_at hl 0 rfl) ?_
      refine mg_skills C hM dX11_walk_109 ?_
      refine lv_aload_n hx hb dX11_walk_112 rfl (lv_at hl 0 rfl) ?_
      refine mg_walks C hM dX11_walk_113 ?_
      refine lv_iload hx hb dX11_walk_116 (lv_at hl 4 rfl) ?_
      have ok_11 := And.left hok
      have hok := And.right hok
      refine ms_skills C hM ok_11 dX11_walk_118 (fun H locs hM => ?_)
      exact J_119 (mI (mI (mI (mI (mI μ_66 0 0 t0_66) 40 (ix (mi μ_66 39 0)) p1) 41 (ix (mi μ_66 39 0)) p2) 42 (ix (mi μ_66 39 0)) p3) 43 (ix (mi μ_66 39 0)) p4) hf hok _ _ ls hM (lv_sub hl [0, 1, 2, 3] rfl)
    · have hf := hf.trans (if_neg c_7)
      have hok := oif_neg hok c_7
      refine lv_lconst (v := 0) hx hb dX11_walk_76 (by decide) ?_
      exact ret _ _ _ _ _ _ hM dX11_walk_77 hf
  have J_28 : ∀ (t0_28 : Int32) (μ_28 : MS), (f_X11_walk μ p1 p2 p3 p4) = f_X11_walk_28 μ p1 p2 p3 p4 t0_28 μ_28 → of_X11_walk_28 μ p1 p2 p3 p4 t0_28 μ_28 → ∀ (H : Heap) (locs : List Loc) (ls : Array Slot), HM D a mo μ_28 s.heap H locs → lv_has ls 6 [(0, .ref mo), (1, .int p1), (2, .int p2), (3, .int p3), (4, .int p4)] → W p l e R s m args below meth c H locs 0 0 Q (F0 m 28 ls [.int t0_28]) := by
    intro t0_28 μ_28 hf hok H locs ls hM hl
    refine lv_istore (lv' := [(5, .int t0_28), (0, .ref mo), (1, .int p1), (2, .int p2), (3, .int p3), (4, .int p4)]) hx hb dX11_walk_28 hl (by decide) rfl (fun ls hl => ?_)
    refine lv_aload_n hx hb dX11_walk_30 rfl (lv_at hl 1 rfl) ?_
    refine lv_aload_n hx hb dX11_walk_31 rfl (lv_at hl 1 rfl) ?_
    refine lv_iload_n hx hb dX11_walk_32 rfl (lv_at hl 2 rfl) ?_
    have ok_3 := And.left hok
    have hok := And.right hok
    refine cc_R (av := [.int p1]) C hM (k_X11_isFireball l D a mo μ_28 p1 ok_3) cw_X11_236 (okR_of hRf hRl (Nat.le_of_ble_eq_true rfl) (Nat.le_of_ble_eq_true rfl)) rfl rfl hl.1 (Nat.le_of_ble_eq_true rfl) (Nat.zero_le _) (Nat.zero_le _) dX11_walk_33 ?_
    refine lv_if_ne (tgt := 43) hx hb dX11_walk_36 (by decide) (fun c_4 => ?_) (fun c_4 => ?_)
    · have hf := hf.trans (if_neg c_4)
      have hok := oif_neg hok c_4
      refine lv_iload hx hb dX11_walk_43 (lv_at hl 0 rfl) ?_
      refine lv_if_ne (tgt := 52) hx hb dX11_walk_45 (by decide) (fun c_5 => ?_) (fun c_5 => ?_)
      · have hf := hf.trans (if_neg c_5)
        have hok := oif_neg hok c_5
        refine lv_aload_n hx hb dX11_walk_52 rfl (lv_at hl 1 rfl) ?_
        refine mg_walks C hM dX11_walk_53 ?_
        refine lv_bipush (v := 60) hx hb dX11_walk_56 (by decide) ?_
        refine lv_icmp_ne (tgt := 65) hx hb dX11_walk_58 (by decide) (fun c_6 => ?_) (fun c_6 => ?_)
        · have hf := hf.trans (if_neg c_6)
          have hok := oif_neg hok c_6
          refine lv_iconst (v := 0) hx hb dX11_walk_65 (by decide) ?_
          exact J_66 0 μ_28 hf hok _ _ ls hM (lv_sub hl [1, 2, 3, 4, 5] rfl)
        · have hf := hf.trans (if_pos c_6)
          have hok := oif_pos hok c_6
          refine lv_iconst (v := 3) hx hb dX11_walk_61 (by decide) ?_
          refine lv_goto (tgt := 66) hx hb dX11_walk_62 (by decide) ?_
          exact J_66 3 μ_28 hf hok _ _ ls hM (lv_sub hl [1, 2, 3, 4, 5] rfl)
      · have hf := hf.trans (if_pos c_5)
        have hok := oif_pos hok c_5
        refine lv_iconst (v := 2) hx hb dX11_walk_48 (by decide) ?_
        refine lv_goto (tgt := 66) hx hb dX11_walk_49 (by decide) ?_
        exact J_66 2 μ_28 hf hok _ _ ls hM (lv_sub hl [1, 2, 3, 4, 5] rfl)
    · have hf := hf.trans (if_pos c_4)
      have hok := oif_pos hok c_4
      refine lv_iconst (v := 1) hx hb dX11_walk_39 (by decide) ?_
      refine lv_goto (tgt := 66) hx hb dX11_walk_40 (by decide) ?_
      exact J_66 1 μ_28 hf hok _ _ ls hM (lv_sub hl [1, 2, 3, 4, 5] rfl)
  have J_4 : ∀ (μ_4 : MS), (f_X11_walk μ p1 p2 p3 p4) = f_X11_walk_4 μ p1 p2 p3 p4 μ_4 → of_X11_walk_4 μ p1 p2 p3 p4 μ_4 → ∀ (H : Heap) (locs : List Loc) (ls : Array Slot), HM D a mo μ_4 s.heap H locs → lv_has ls 6 [(0, .ref mo), (1, .int p1), (2, .int p2), (3, .int p3), (4, .int p4)] → W p l e R s m args below meth c H locs 0 0 Q (F0 m 4 ls []) := by
    intro μ_4 hf hok H locs ls hM hl
    refine lv_iload_n hx hb dX11_walk_4 rfl (lv_at hl 2 rfl) ?_
    refine lv_iload_n hx hb dX11_walk_5 rfl (lv_at hl 3 rfl) ?_
    refine cc_S (av := [.int p2, .int p3]) C (k_X11_isCell l D a p2 p3) cw_X11_296 (okR_of hRf hRl (Nat.le_of_ble_eq_true rfl) (Nat.le_of_ble_eq_true rfl)) rfl rfl hl.1 (Nat.le_of_ble_eq_true rfl) (Nat.zero_le _) (Nat.zero_le _) dX11_walk_6 ?_
    refine lv_if_eq (tgt := 27) hx hb dX11_walk_9 (by decide) (fun c_2 => ?_) (fun c_2 => ?_)
    · have hf := hf.trans (if_pos c_2)
      have hok := oif_pos hok c_2
      refine lv_iconst (v := 0) hx hb dX11_walk_27 (by decide) ?_
      exact J_28 0 μ_4 hf hok _ _ ls hM (lv_sub hl [0, 1, 2, 3, 4] rfl)
    · have hf := hf.trans (if_neg c_2)
      have hok := oif_neg hok c_2
      refine lv_iload hx hb dX11_walk_12 (lv_at hl 4 rfl) ?_
      refine lv_iconst (v := 1) hx hb dX11_walk_14 (by decide) ?_
      refine lv_bipush (v := 100) hx hb dX11_walk_15 (by decide) ?_
      refine cc_S (av := [.int p4, .int 1, .int 100]) C (k_X11_isIn l D a p4 1 100) cw_X11_158 (okR_of hRf hRl (Nat.le_of_ble_eq_true rfl) (Nat.le_of_ble_eq_true rfl)) rfl rfl hl.1 (Nat.le_of_ble_eq_true rfl) (Nat.zero_le _) (Nat.zero_le _) dX11_walk_17 ?_
      refine lv_if_eq (tgt := 27) hx hb dX11_walk_20 (by decide) (fun c_13 => ?_) (fun c_13 => ?_)
      · have hf := hf.trans (if_pos c_13)
        have hok := oif_pos hok c_13
        refine lv_iconst (v := 0) hx hb dX11_walk_27 (by decide) ?_
        exact J_28 0 μ_4 hf hok _ _ ls hM (lv_sub hl [0, 1, 2, 3, 4] rfl)
      · have hf := hf.trans (if_neg c_13)
        have hok := oif_neg hok c_13
        refine lv_iconst (v := 1) hx hb dX11_walk_23 (by decide) ?_
        refine lv_goto (tgt := 28) hx hb dX11_walk_24 (by decide) ?_
        exact J_28 1 μ_4 hf hok _ _ ls hM (lv_sub hl [0, 1, 2, 3, 4] rfl)
  refine lv_aload_n hx hb dX11_walk_0 rfl (lv_at hl 0 rfl) ?_
  have ok_1 := And.left hok
  have hok := And.right hok
  refine cc_M (av := []) C hM (k_X11_spreads l D a mo μ ok_1) cw_X11_229 (okR_of hRf hRl (Nat.le_of_ble_eq_true rfl) (Nat.le_of_ble_eq_true rfl)) rfl rfl hl.1 (Nat.le_of_ble_eq_true rfl) (Nat.zero_le _) (Nat.zero_le _) dX11_walk_1 (fun H locs hM => ?_)
  exact J_4 (f_X11_spreads μ) hf hok _ _ ls hM (lv_sub hl [0, 1, 2, 3, 4] rfl)
def f_X11_chance_30 (μ : MS) (p1 : Int32) (p2 : Int32) (p3 : Int32) (t0_30 : Int32) (μ_30 : MS) : Int64 × MS := (if t0_30 ≤ 0 then ((f_X11_chanceOf (mI μ_30 0 0 t0_30) p1 p2 p3).1, (f_X11_chanceOf (mI μ_30 0 0 t0_30) p1 p2 p3).2) else (0, (mI μ_30 0 0 t0_30)))
def of_X11_chance_30 (μ : MS) (p1 : Int32) (p2 : Int32) (p3 : Int32) (t0_30 : Int32) (μ_30 : MS) : Prop := (oif (t0_30 ≤ 0) (of_X11_chanceOf (mI μ_30 0 0 t0_30) p1 p2 p3 ∧ True) True)
def f_X11_chance_4 (μ : MS) (p1 : Int32) (p2 : Int32) (p3 : Int32) (μ_4 : MS) : Int64 × MS := (if (f_X11_isFireball μ_4 p1) = 0 then (f_X11_chance_30 μ p1 p2 p3 1 μ_4) else (if (f_X11_isCell p2 p3) = 0 then (f_X11_chance_30 μ p1 p2 p3 2 μ_4) else (f_X11_chance_30 μ p1 p2 p3 0 μ_4)))
def of_X11_chance_4 (μ : MS) (p1 : Int32) (p2 : Int32) (p3 : Int32) (μ_4 : MS) : Prop := (of_X11_isFireball μ_4 p1 ∧ (oif ((f_X11_isFireball μ_4 p1) = 0) (of_X11_chance_30 μ p1 p2 p3 1 μ_4) (oif ((f_X11_isCell p2 p3) = 0) (of_X11_chance_30 μ p1 p2 p3 2 μ_4) (of_X11_chance_30 μ p1 p2 p3 0 μ_4))))
def f_X11_chance (μ : MS) (p1 : Int32) (p2 : Int32) (p3 : Int32) : Int64 × MS := (f_X11_chance_4 μ p1 p2 p3 (f_X11_spreads μ))
def of_X11_chance (μ : MS) (p1 : Int32) (p2 : Int32) (p3 : Int32) : Prop := (of_X11_spreads μ ∧ (of_X11_chance_4 μ p1 p2 p3 (f_X11_spreads μ)))
set_option maxHeartbeats 4000000 in
set_option maxRecDepth 100000 in
theorem k_X11_chance (l : Launch) (D : va_G) (a : Nat → ClassId) (mo : Nat) (μ : MS) (p1 : Int32) (p2 : Int32) (p3 : Int32) (hok : of_X11_chance μ p1 p2 p3) : KM l D a mo yX11_chance cX11_chance 4 ((some .long)) 7 185 [.int p1, .int p2, .int p3] μ (some (.long (f_X11_chance μ p1 p2 p3).1)) (f_X11_chance μ p1 p2 p3).2 := by
  refine goMl (by decide +kernel) (Nat.le_of_ble_eq_true rfl) ?_
  intro p e s m args below meth c ls R Q hRf hRl C hl hB
  obtain ⟨hM, ret⟩ := hB
  have hl : lv_has ls 4 [(0, .ref mo), (1, .int p1), (2, .int p2), (3, .int p3)] := hl
  have hx := C.1.1
  have hb := C.1.2.1
  have hts := C.1.2.2.2.2
  have hown := C.1.2.2.2.1
  have hf : (f_X11_chance μ p1 p2 p3) = (f_X11_chance μ p1 p2 p3) := rfl
  have J_30 : ∀ (t0_30 : Int32) (μ_30 : MS), (f_X11_chance μ p1 p2 p3) = f_X11_chance_30 μ p1 p2 p3 t0_30 μ_30 → of_X11_chance_30 μ p1 p2 p3 t0_30 μ_30 → ∀ (H : Heap) (locs : List Loc) (ls : Array Slot), HM D a mo μ_30 s.heap H locs → lv_has ls 4 [(0, .ref mo), (1, .int p1), (2, .int p2), (3, .int p3)] → W p l e R s m args below meth c H locs 0 0 Q (F0 m 30 ls [.int t0_30, .ref mo]) := by
    intro t0_30 μ_30 hf hok H locs ls hM hl
    refine mp_thrown C hM dX11_chance_30 (fun H locs hM => ?_)
    refine lv_aload_n hx hb dX11_chance_33 rfl (lv_at hl 0 rfl) ?_
    refine mg_thrown C hM dX11_chance_34 ?_
    refine lv_if_le (tgt := 44) hx hb dX11_chance_37 (by decide) (fun c_5 => ?_) (fun c_5 => ?_)
    · have hf := hf.trans (if_pos c_5)
      have hok := oif_pos hok c_5
      refine lv_aload_n hx hb dX11_chance_44 rfl (lv_at hl 0 rfl) ?_
      refine lv_iload_n hx hb dX11_chance_45 rfl (lv_at hl 1 rfl) ?_
      refine lv_iload_n hx hb dX11_chance_46 rfl (lv_at hl 2 rfl) ?_
      refine lv_iload_n hx hb dX11_chance_47 rfl (lv_at hl 3 rfl) ?_
      have ok_6 := And.left hok
      have hok := And.right hok
      refine cc_M (av := [.int p1, .int p2, .int p3]) C hM (k_X11_chanceOf l D a mo (mI μ_30 0 0 t0_30) p1 p2 p3 ok_6) cw_X11_299 (okR_of hRf hRl (Nat.le_of_ble_eq_true rfl) (Nat.le_of_ble_eq_true rfl)) rfl rfl hl.1 (Nat.le_of_ble_eq_true rfl) (Nat.zero_le _) (Nat.zero_le _) dX11_chance_48 (fun H locs hM => ?_)
      exact ret _ _ _ _ _ _ hM dX11_chance_51 hf
    · have hf := hf.trans (if_neg c_5)
      have hok := oif_neg hok c_5
      refine lv_lconst (v := 0) hx hb dX11_chance_40 (by decide) ?_
      refine lv_goto (tgt := 51) hx hb dX11_chance_41 (by decide) ?_
      exact ret _ _ _ _ _ _ hM dX11_chance_51 hf
  have J_4 : ∀ (μ_4 : MS), (f_X11_chance μ p1 p2 p3) = f_X11_chance_4 μ p1 p2 p3 μ_4 → of_X11_chance_4 μ p1 p2 p3 μ_4 → ∀ (H : Heap) (locs : List Loc) (ls : Array Slot), HM D a mo μ_4 s.heap H locs → lv_has ls 4 [(0, .ref mo), (1, .int p1), (2, .int p2), (3, .int p3)] → W p l e R s m args below meth c H locs 0 0 Q (F0 m 4 ls []) := by
    intro μ_4 hf hok H locs ls hM hl
    refine lv_aload_n hx hb dX11_chance_4 rfl (lv_at hl 0 rfl) ?_
    refine lv_aload_n hx hb dX11_chance_5 rfl (lv_at hl 0 rfl) ?_
    refine lv_iload_n hx hb dX11_chance_6 rfl (lv_at hl 1 rfl) ?_
    have ok_2 := And.left hok
    have hok := And.right hok
    refine cc_R (av := [.int p1]) C hM (k_X11_isFireball l D a mo μ_4 p1 ok_2) cw_X11_236 (okR_of hRf hRl (Nat.le_of_ble_eq_true rfl) (Nat.le_of_ble_eq_true rfl)) rfl rfl hl.1 (Nat.le_of_ble_eq_true rfl) (Nat.zero_le _) (Nat.zero_le _) dX11_chance_7 ?_
    refine lv_if_ne (tgt := 17) hx hb dX11_chance_10 (by decide) (fun c_3 => ?_) (fun c_3 => ?_)
    · have hf := hf.trans (if_neg c_3)
      have hok := oif_neg hok c_3
      refine lv_iload_n hx hb dX11_chance_17 rfl (lv_at hl 2 rfl) ?_
      refine lv_iload_n hx hb dX11_chance_18 rfl (lv_at hl 3 rfl) ?_
      refine cc_S (av := [.int p2, .int p3]) C (k_X11_isCell l D a p2 p3) cw_X11_296 (okR_of hRf hRl (Nat.le_of_ble_eq_true rfl) (Nat.le_of_ble_eq_true rfl)) rfl rfl hl.1 (Nat.le_of_ble_eq_true rfl) (Nat.zero_le _) (Nat.zero_le _) dX11_chance_19 ?_
      refine lv_if_ne (tgt := 29) hx hb dX11_chance_22 (by decide) (fun c_4 => ?_) (fun c_4 => ?_)
      · have hf := hf.trans (if_neg c_4)
        have hok := oif_neg hok c_4
        refine lv_iconst (v := 0) hx hb dX11_chance_29 (by decide) ?_
        exact J_30 0 μ_4 hf hok _ _ ls hM (lv_sub hl [0, 1, 2, 3] rfl)
      · have hf := hf.trans (if_pos c_4)
        have hok := oif_pos hok c_4
        refine lv_iconst (v := 2) hx hb dX11_chance_25 (by decide) ?_
        refine lv_goto (tgt := 30) hx hb dX11_chance_26 (by decide) ?_
        exact J_30 2 μ_4 hf hok _ _ ls hM (lv_sub hl [0, 1, 2, 3] rfl)
    · have hf := hf.trans (if_pos c_3)
      have hok := oif_pos hok c_3
      refine lv_iconst (v := 1) hx hb dX11_chance_13 (by decide) ?_
      refine lv_goto (tgt := 30) hx hb dX11_chance_14 (by decide) ?_
      exact J_30 1 μ_4 hf hok _ _ ls hM (lv_sub hl [0, 1, 2, 3] rfl)
  refine lv_aload_n hx hb dX11_chance_0 rfl (lv_at hl 0 rfl) ?_
  have ok_1 := And.left hok
  have hok := And.right hok
  refine cc_M (av := []) C hM (k_X11_spreads l D a mo μ ok_1) cw_X11_229 (okR_of hRf hRl (Nat.le_of_ble_eq_true rfl) (Nat.le_of_ble_eq_true rfl)) rfl rfl hl.1 (Nat.le_of_ble_eq_true rfl) (Nat.zero_le _) (Nat.zero_le _) dX11_chance_1 (fun H locs hM => ?_)
  exact J_4 (f_X11_spreads μ) hf hok _ _ ls hM (lv_sub hl [0, 1, 2, 3] rfl)
def f_X11_landOf (p1 : Int32) (p2 : Int32) : Int32 := (if 50 ≤ p1 then (if 50 ≤ p2 then 3 else 1) else (if 50 ≤ p2 then 2 else 0))
set_option maxHeartbeats 4000000 in
set_option maxRecDepth 100000 in
theorem k_X11_landOf (l : Launch) (D : va_G) (a : Nat → ClassId) (p1 : Int32) (p2 : Int32) : K0 l yX11_landOf cX11_landOf 2 ((some .int)) 0 0 [.int p1, .int p2] (BK D a) (.int (f_X11_landOf p1 p2)) := by
  refine go0i (D := D) (a := a) (by decide +kernel) (fun _ h => h) (Nat.le_of_ble_eq_true rfl) ?_
  intro p e s m args below meth c ls R Q hRf hRl C hl hB
  obtain ⟨-, ret⟩ := hB
  have hl : lv_has ls 2 [(0, .int p1), (1, .int p2)] := hl
  have hx := C.1.1
  have hb := C.1.2.1
  have hts := C.1.2.2.2.2
  have hown := C.1.2.2.2.1
  have hf : (f_X11_landOf p1 p2) = (f_X11_landOf p1 p2) := rfl
  refine lv_iload_n hx hb dX11_landOf_0 rfl (lv_at hl 0 rfl) ?_
  refine lv_bipush (v := 50) hx hb dX11_landOf_1 (by decide) ?_
  refine lv_icmp_ge (tgt := 20) hx hb dX11_landOf_3 (by decide) (fun c_1 => ?_) (fun c_1 => ?_)
  · have hf := hf.trans (if_pos c_1)
    refine lv_iload_n hx hb dX11_landOf_20 rfl (lv_at hl 1 rfl) ?_
    refine lv_bipush (v := 50) hx hb dX11_landOf_21 (by decide) ?_
    refine lv_icmp_ge (tgt := 30) hx hb dX11_landOf_23 (by decide) (fun c_2 => ?_) (fun c_2 => ?_)
    · have hf := hf.trans (if_pos c_2)
      refine lv_iconst (v := 3) hx hb dX11_landOf_30 (by decide) ?_
      exact ret _ _ _ dX11_landOf_31 hf
    · have hf := hf.trans (if_neg c_2)
      refine lv_iconst (v := 1) hx hb dX11_landOf_26 (by decide) ?_
      refine lv_goto (tgt := 31) hx hb dX11_landOf_27 (by decide) ?_
      exact ret _ _ _ dX11_landOf_31 hf
  · have hf := hf.trans (if_neg c_1)
    refine lv_iload_n hx hb dX11_landOf_6 rfl (lv_at hl 1 rfl) ?_
    refine lv_bipush (v := 50) hx hb dX11_landOf_7 (by decide) ?_
    refine lv_icmp_ge (tgt := 16) hx hb dX11_landOf_9 (by decide) (fun c_3 => ?_) (fun c_3 => ?_)
    · have hf := hf.trans (if_pos c_3)
      refine lv_iconst (v := 2) hx hb dX11_landOf_16 (by decide) ?_
      refine lv_goto (tgt := 31) hx hb dX11_landOf_17 (by decide) ?_
      exact ret _ _ _ dX11_landOf_31 hf
    · have hf := hf.trans (if_neg c_3)
      refine lv_iconst (v := 0) hx hb dX11_landOf_12 (by decide) ?_
      refine lv_goto (tgt := 31) hx hb dX11_landOf_13 (by decide) ?_
      exact ret _ _ _ dX11_landOf_31 hf
def f_X11_isStone (μ : MS) (p1 : Int32) : Int32 := (f_X11_isIn p1 0 ((mi μ 46 0) - 1))
def of_X11_isStone (μ : MS) (p1 : Int32) : Prop := (zb (f_X11_isIn p1 0 ((mi μ 46 0) - 1)) ∧ True)
set_option maxHeartbeats 4000000 in
set_option maxRecDepth 100000 in
theorem k_X11_isStone (l : Launch) (D : va_G) (a : Nat → ClassId) (mo : Nat) (μ : MS) (p1 : Int32) (hok : of_X11_isStone μ p1) : K0 l yX11_isStone cX11_isStone 2 ((some .boolean)) 1 22 [.ref mo, .int p1] (BM D a mo μ) (.int (f_X11_isStone μ p1)) := by
  refine go0z (D := D) (a := a) (by decide +kernel) (fun _ h => h.1) (Nat.le_of_ble_eq_true rfl) ?_
  intro p e s m args below meth c ls R Q hRf hRl C hl hB
  obtain ⟨hB, ret⟩ := hB
  have hM : HM D a mo μ s.heap s.heap [] := ⟨hB.2, va_S.rf⟩
  have hl : lv_has ls 2 [(0, .ref mo), (1, .int p1)] := hl
  have hx := C.1.1
  have hb := C.1.2.1
  have hts := C.1.2.2.2.2
  have hown := C.1.2.2.2.1
  have hf : (f_X11_isStone μ p1) = (f_X11_isStone μ p1) := rfl
  refine lv_iload_n hx hb dX11_isStone_0 rfl (lv_at hl 1 rfl) ?_
  refine lv_iconst (v := 0) hx hb dX11_isStone_1 (by decide) ?_
  refine lv_aload_n hx hb dX11_isStone_2 rfl (lv_at hl 0 rfl) ?_
  refine mg_stones C hM dX11_isStone_3 ?_
  refine lv_iconst (v := 1) hx hb dX11_isStone_6 (by decide) ?_
  refine lv_isub hx hb dX11_isStone_7 ?_
  refine cc_S (av := [.int p1, .int 0, .int ((mi μ 46 0) - 1)]) C (k_X11_isIn l D a p1 0 ((mi μ 46 0) - 1)) cw_X11_158 (okR_of hRf hRl (Nat.le_of_ble_eq_true rfl) (Nat.le_of_ble_eq_true rfl)) rfl rfl hl.1 (Nat.le_of_ble_eq_true rfl) (Nat.zero_le _) (Nat.zero_le _) dX11_isStone_8 ?_
  have ok_1 := And.left hok
  have hok := And.right hok
  exact ret _ _ _ dX11_isStone_11 ok_1 hf
def f_X11_adds_52 (μ : MS) (p1 : Int32) (p2 : Int32) (p3 : Int32) (p4 : Int32) (p5 : Int32) (p6 : Int32) (μ_52 : MS) : Int32 × MS := ((((mi μ_52 46 0) + 1) - 1), (mI (mI (mI (mI μ_52 53 (ix (mi μ_52 46 0)) (-1)) 54 (ix (mi μ_52 46 0)) p6) 60 (ix (mi μ_52 46 0)) (-1)) 46 0 ((mi μ_52 46 0) + 1)))
def of_X11_adds_52 (μ : MS) (p1 : Int32) (p2 : Int32) (p3 : Int32) (p4 : Int32) (p5 : Int32) (p6 : Int32) (μ_52 : MS) : Prop := (vp_in (mi μ_52 46 0) 40 ∧ (vp_in (mi μ_52 46 0) 40 ∧ (vp_in (mi μ_52 46 0) 40 ∧ True)))
def f_X11_adds (μ : MS) (p1 : Int32) (p2 : Int32) (p3 : Int32) (p4 : Int32) (p5 : Int32) (p6 : Int32) : Int32 × MS := (f_X11_adds_52 μ p1 p2 p3 p4 p5 p6 (mI (mI (mI (mI (mI μ 47 (ix (mi μ 46 0)) p1) 48 (ix (mi μ 46 0)) p2) 49 (ix (mi μ 46 0)) p3) 50 (ix (mi μ 46 0)) p4) 51 (ix (mi μ 46 0)) p5))
def of_X11_adds (μ : MS) (p1 : Int32) (p2 : Int32) (p3 : Int32) (p4 : Int32) (p5 : Int32) (p6 : Int32) : Prop := (vp_in (mi μ 46 0) 40 ∧ (vp_in (mi μ 46 0) 40 ∧ (vp_in (mi μ 46 0) 40 ∧ (vp_in (mi μ 46 0) 40 ∧ (vp_in (mi μ 46 0) 40 ∧ (of_X11_adds_52 μ p1 p2 p3 p4 p5 p6 (mI (mI (mI (mI (mI μ 47 (ix (mi μ 46 0)) p1) 48 (ix (mi μ 46 0)) p2) 49 (ix (mi μ 46 0)) p3) 50 (ix (mi μ 46 0)) p4) 51 (ix (mi μ 46 0)) p5)))))))
set_option maxHeartbeats 4000000 in
set_option maxRecDepth 100000 in
theorem k_X11_adds (l : Launch) (D : va_G) (a : Nat → ClassId) (mo : Nat) (μ : MS) (p1 : Int32) (p2 : Int32) (p3 : Int32) (p4 : Int32) (p5 : Int32) (p6 : Int32) (hok : of_X11_adds μ p1 p2 p3 p4 p5 p6) : KM l D a mo yX11_adds cX11_adds 7 ((some .int)) 0 0 [.int p1, .int p2, .int p3, .int p4, .int p5, .int p6] μ (some (.int (f_X11_adds μ p1 p2 p3 p4 p5 p6).1)) (f_X11_adds μ p1 p2 p3 p4 p5 p6).2 := by
  refine goMi (by decide +kernel) (Nat.le_of_ble_eq_true rfl) ?_
  intro p e s m args below meth c ls R Q hRf hRl C hl hB
  obtain ⟨hM, ret⟩ := hB
  have hl : lv_has ls 7 [(0, .ref mo), (1, .int p1), (2, .int p2), (3, .int p3), (4, .int p4), (5, .int p5), (6, .int p6)] := hl
  have hx := C.1.1
  have hb := C.1.2.1
  have hts := C.1.2.2.2.2
  have hown := C.1.2.2.2.1
  have hf : (f_X11_adds μ p1 p2 p3 p4 p5 p6) = (f_X11_adds μ p1 p2 p3 p4 p5 p6) := rfl
  have J_52 : ∀ (μ_52 : MS), (f_X11_adds μ p1 p2 p3 p4 p5 p6) = f_X11_adds_52 μ p1 p2 p3 p4 p5 p6 μ_52 → of_X11_adds_52 μ p1 p2 p3 p4 p5 p6 μ_52 → ∀ (H : Heap) (locs : List Loc) (ls : Array Slot), HM D a mo μ_52 s.heap H locs → lv_has ls 7 [(0, .ref mo), (6, .int p6)] → W p l e R s m args below meth c H locs 0 0 Q (F0 m 52 ls []) := by
    intro μ_52 hf hok H locs ls hM hl
    refine lv_aload_n hx hb dX11_adds_52 rfl (lv_at hl 0 rfl) ?_
    refine mg_laboratories C hM dX11_adds_53 ?_
    refine lv_aload_n hx hb dX11_adds_56 rfl (lv_at hl 0 rfl) ?_
    refine mg_stones C hM dX11_adds_57 ?_
    refine lv_iconst (v := (-1)) hx hb dX11_adds_60 (by decide) ?_
    have ok_6 := And.left hok
    have hok := And.right hok
    refine ms_laboratories C hM ok_6 dX11_adds_61 (fun H locs hM => ?_)
    refine lv_aload_n hx hb dX11_adds_62 rfl (lv_at hl 0 rfl) ?_
    refine mg_cutFrom C hM dX11_adds_63 ?_
    refine lv_aload_n hx hb dX11_adds_66 rfl (lv_at hl 0 rfl) ?_
    refine mg_stones C hM dX11_adds_67 ?_
    refine lv_iload hx hb dX11_adds_70 (lv_at hl 1 rfl) ?_
    have ok_7 := And.left hok
    have hok := And.right hok
    refine ms_cutFrom C hM ok_7 dX11_adds_72 (fun H locs hM => ?_)
    refine lv_aload_n hx hb dX11_adds_73 rfl (lv_at hl 0 rfl) ?_
    refine mg_names C hM dX11_adds_74 ?_
    refine lv_aload_n hx hb dX11_adds_77 rfl (lv_at hl 0 rfl) ?_
    refine mg_stones C hM dX11_adds_78 ?_
    refine lv_iconst (v := (-1)) hx hb dX11_adds_81 (by decide) ?_
    have ok_8 := And.left hok
    have hok := And.right hok
    refine ms_names C hM ok_8 dX11_adds_82 (fun H locs hM => ?_)
    refine lv_aload_n hx hb dX11_adds_83 rfl (lv_at hl 0 rfl) ?_
    refine lv_dup hx hb dX11_adds_84 rfl ?_
    refine mg_stones C hM dX11_adds_85 ?_
    refine lv_iconst (v := 1) hx hb dX11_adds_88 (by decide) ?_
    refine lv_iadd hx hb dX11_adds_89 ?_
    refine mp_stones C hM dX11_adds_90 (fun H locs hM => ?_)
    refine lv_aload_n hx hb dX11_adds_93 rfl (lv_at hl 0 rfl) ?_
    refine mg_stones C hM dX11_adds_94 ?_
    refine lv_iconst (v := 1) hx hb dX11_adds_97 (by decide) ?_
    refine lv_isub hx hb dX11_adds_98 ?_
    exact ret _ _ _ _ _ _ hM dX11_adds_99 hf
  refine lv_aload_n hx hb dX11_adds_0 rfl (lv_at hl 0 rfl) ?_
  refine mg_stoneX C hM dX11_adds_1 ?_
  refine lv_aload_n hx hb dX11_adds_4 rfl (lv_at hl 0 rfl) ?_
  refine mg_stones C hM dX11_adds_5 ?_
  refine lv_iload_n hx hb dX11_adds_8 rfl (lv_at hl 1 rfl) ?_
  have ok_1 := And.left hok
  have hok := And.right hok
  refine ms_stoneX C hM ok_1 dX11_adds_9 (fun H locs hM => ?_)
  refine lv_aload_n hx hb dX11_adds_10 rfl (lv_at hl 0 rfl) ?_
  refine mg_stoneY C hM dX11_adds_11 ?_
  refine lv_aload_n hx hb dX11_adds_14 rfl (lv_at hl 0 rfl) ?_
  refine mg_stones C hM dX11_adds_15 ?_
  refine lv_iload_n hx hb dX11_adds_18 rfl (lv_at hl 2 rfl) ?_
  have ok_2 := And.left hok
  have hok := And.right hok
  refine ms_stoneY C hM ok_2 dX11_adds_19 (fun H locs hM => ?_)
  refine lv_aload_n hx hb dX11_adds_20 rfl (lv_at hl 0 rfl) ?_
  refine mg_stoneNights C hM dX11_adds_21 ?_
  refine lv_aload_n hx hb dX11_adds_24 rfl (lv_at hl 0 rfl) ?_
  refine mg_stones C hM dX11_adds_25 ?_
  refine lv_iload_n hx hb dX11_adds_28 rfl (lv_at hl 3 rfl) ?_
  have ok_3 := And.left hok
  have hok := And.right hok
  refine ms_stoneNights C hM ok_3 dX11_adds_29 (fun H locs hM => ?_)
  refine lv_aload_n hx hb dX11_adds_30 rfl (lv_at hl 0 rfl) ?_
  refine mg_weights C hM dX11_adds_31 ?_
  refine lv_aload_n hx hb dX11_adds_34 rfl (lv_at hl 0 rfl) ?_
  refine mg_stones C hM dX11_adds_35 ?_
  refine lv_iload hx hb dX11_adds_38 (lv_at hl 4 rfl) ?_
  have ok_4 := And.left hok
  have hok := And.right hok
  refine ms_weights C hM ok_4 dX11_adds_40 (fun H locs hM => ?_)
  refine lv_aload_n hx hb dX11_adds_41 rfl (lv_at hl 0 rfl) ?_
  refine mg_owners C hM dX11_adds_42 ?_
  refine lv_aload_n hx hb dX11_adds_45 rfl (lv_at hl 0 rfl) ?_
  refine mg_stones C hM dX11_adds_46 ?_
  refine lv_iload hx hb dX11_adds_49 (lv_at hl 5 rfl) ?_
  have ok_5 := And.left hok
  have hok := And.right hok
  refine ms_owners C hM ok_5 dX11_adds_51 (fun H locs hM => ?_)
  exact J_52 (mI (mI (mI (mI (mI μ 47 (ix (mi μ 46 0)) p1) 48 (ix (mi μ 46 0)) p2) 49 (ix (mi μ 46 0)) p3) 50 (ix (mi μ 46 0)) p4) 51 (ix (mi μ 46 0)) p5) hf hok _ _ ls hM (lv_sub hl [0, 6] rfl)
def f_X11_find_114 (μ : MS) (p1 : Int32) (p2 : Int32) (p3 : Int32) (p4 : Int32) (p5 : Int32) (t0_114 : Int32) (t1_114 : Int32) (t2_114 : Int32) (t3_114 : Int32) (t4_114 : Int32) (μ_114 : MS) : Int32 × MS := ((f_X11_adds μ_114 t4_114 t3_114 t2_114 t1_114 t0_114 (-1)).1, (f_X11_adds μ_114 t4_114 t3_114 t2_114 t1_114 t0_114 (-1)).2)
def of_X11_find_114 (μ : MS) (p1 : Int32) (p2 : Int32) (p3 : Int32) (p4 : Int32) (p5 : Int32) (t0_114 : Int32) (t1_114 : Int32) (t2_114 : Int32) (t3_114 : Int32) (t4_114 : Int32) (μ_114 : MS) : Prop := (of_X11_adds μ_114 t4_114 t3_114 t2_114 t1_114 t0_114 (-1) ∧ True)
def f_X11_find_68 (μ : MS) (p1 : Int32) (p2 : Int32) (p3 : Int32) (p4 : Int32) (p5 : Int32) (t0_68 : Int32) : Int32 × MS := (if t0_68 ≤ 0 then (if (mi μ 66 (ix (f_X11_landOf p1 p2))) = 1 then (f_X11_find_114 μ p1 p2 p3 p4 p5 (10 + (f_X11_landOf p1 p2)) p4 p3 p2 p1 (mI μ 0 0 t0_68)) else (f_X11_find_114 μ p1 p2 p3 p4 p5 p5 p4 p3 p2 p1 (mI μ 0 0 t0_68))) else (0, (mI μ 0 0 t0_68)))
def of_X11_find_68 (μ : MS) (p1 : Int32) (p2 : Int32) (p3 : Int32) (p4 : Int32) (p5 : Int32) (t0_68 : Int32) : Prop := (oif (t0_68 ≤ 0) (vp_in (f_X11_landOf p1 p2) 4 ∧ (oif ((mi μ 66 (ix (f_X11_landOf p1 p2))) = 1) (of_X11_find_114 μ p1 p2 p3 p4 p5 (10 + (f_X11_landOf p1 p2)) p4 p3 p2 p1 (mI μ 0 0 t0_68)) (of_X11_find_114 μ p1 p2 p3 p4 p5 p5 p4 p3 p2 p1 (mI μ 0 0 t0_68)))) True)
def f_X11_find_42 (μ : MS) (p1 : Int32) (p2 : Int32) (p3 : Int32) (p4 : Int32) (p5 : Int32) (t0_42 : Int32) : Int32 × MS := (if t0_42 = 0 then (f_X11_find_68 μ p1 p2 p3 p4 p5 1) else (if (mi μ 46 0) = 40 then (f_X11_find_68 μ p1 p2 p3 p4 p5 2) else (f_X11_find_68 μ p1 p2 p3 p4 p5 0)))
def of_X11_find_42 (μ : MS) (p1 : Int32) (p2 : Int32) (p3 : Int32) (p4 : Int32) (p5 : Int32) (t0_42 : Int32) : Prop := (oif (t0_42 = 0) (of_X11_find_68 μ p1 p2 p3 p4 p5 1) (oif ((mi μ 46 0) = 40) (of_X11_find_68 μ p1 p2 p3 p4 p5 2) (of_X11_find_68 μ p1 p2 p3 p4 p5 0)))
def f_X11_find (μ : MS) (p1 : Int32) (p2 : Int32) (p3 : Int32) (p4 : Int32) (p5 : Int32) : Int32 × MS := (if (f_X11_isCell p1 p2) = 0 then (f_X11_find_42 μ p1 p2 p3 p4 p5 0) else (if (f_X11_isNight p3) = 0 then (f_X11_find_42 μ p1 p2 p3 p4 p5 0) else (if (f_X11_isIn p4 1 1000000) = 0 then (f_X11_find_42 μ p1 p2 p3 p4 p5 0) else (if (f_X11_isIn p5 0 5) = 0 then (f_X11_find_42 μ p1 p2 p3 p4 p5 0) else (f_X11_find_42 μ p1 p2 p3 p4 p5 1)))))
def of_X11_find (μ : MS) (p1 : Int32) (p2 : Int32) (p3 : Int32) (p4 : Int32) (p5 : Int32) : Prop := (oif ((f_X11_isCell p1 p2) = 0) (of_X11_find_42 μ p1 p2 p3 p4 p5 0) (of_X11_isNight p3 ∧ (oif ((f_X11_isNight p3) = 0) (of_X11_find_42 μ p1 p2 p3 p4 p5 0) (oif ((f_X11_isIn p4 1 1000000) = 0) (of_X11_find_42 μ p1 p2 p3 p4 p5 0) (oif ((f_X11_isIn p5 0 5) = 0) (of_X11_find_42 μ p1 p2 p3 p4 p5 0) (of_X11_find_42 μ p1 p2 p3 p4 p5 1))))))
set_option maxHeartbeats 4000000 in
set_option maxRecDepth 100000 in
theorem k_X11_find (l : Launch) (D : va_G) (a : Nat → ClassId) (mo : Nat) (μ : MS) (p1 : Int32) (p2 : Int32) (p3 : Int32) (p4 : Int32) (p5 : Int32) (hok : of_X11_find μ p1 p2 p3 p4 p5) : KM l D a mo yX11_find cX11_find 8 ((some .int)) 2 43 [.int p1, .int p2, .int p3, .int p4, .int p5] μ (some (.int (f_X11_find μ p1 p2 p3 p4 p5).1)) (f_X11_find μ p1 p2 p3 p4 p5).2 := by
  refine goMi (by decide +kernel) (Nat.le_of_ble_eq_true rfl) ?_
  intro p e s m args below meth c ls R Q hRf hRl C hl hB
  obtain ⟨hM, ret⟩ := hB
  have hl : lv_has ls 8 [(0, .ref mo), (1, .int p1), (2, .int p2), (3, .int p3), (4, .int p4), (5, .int p5)] := hl
  have hx := C.1.1
  have hb := C.1.2.1
  have hts := C.1.2.2.2.2
  have hown := C.1.2.2.2.1
  have hf : (f_X11_find μ p1 p2 p3 p4 p5) = (f_X11_find μ p1 p2 p3 p4 p5) := rfl
  have J_114 : ∀ (t0_114 : Int32) (t1_114 : Int32) (t2_114 : Int32) (t3_114 : Int32) (t4_114 : Int32) (μ_114 : MS), (f_X11_find μ p1 p2 p3 p4 p5) = f_X11_find_114 μ p1 p2 p3 p4 p5 t0_114 t1_114 t2_114 t3_114 t4_114 μ_114 → of_X11_find_114 μ p1 p2 p3 p4 p5 t0_114 t1_114 t2_114 t3_114 t4_114 μ_114 → ∀ (H : Heap) (locs : List Loc) (ls : Array Slot), HM D a mo μ_114 s.heap H locs → lv_has ls 8 [] → W p l e R s m args below meth c H locs 0 0 Q (F0 m 114 ls [.int t0_114, .int t1_114, .int t2_114, .int t3_114, .int t4_114, .ref mo]) := by
    intro t0_114 t1_114 t2_114 t3_114 t4_114 μ_114 hf hok H locs ls hM hl
    refine lv_iconst (v := (-1)) hx hb dX11_find_114 (by decide) ?_
    have ok_7 := And.left hok
    have hok := And.right hok
    refine cc_M (av := [.int t4_114, .int t3_114, .int t2_114, .int t1_114, .int t0_114, .int (-1)]) C hM (k_X11_adds l D a mo μ_114 t4_114 t3_114 t2_114 t1_114 t0_114 (-1) ok_7) cw_X11_310 (okR_of hRf hRl (Nat.le_of_ble_eq_true rfl) (Nat.le_of_ble_eq_true rfl)) rfl rfl hl.1 (Nat.le_of_ble_eq_true rfl) (Nat.zero_le _) (Nat.zero_le _) dX11_find_115 (fun H locs hM => ?_)
    exact ret _ _ _ _ _ _ hM dX11_find_118 hf
  have J_68 : ∀ (t0_68 : Int32), (f_X11_find μ p1 p2 p3 p4 p5) = f_X11_find_68 μ p1 p2 p3 p4 p5 t0_68 → of_X11_find_68 μ p1 p2 p3 p4 p5 t0_68 → ∀ (ls : Array Slot), lv_has ls 8 [(0, .ref mo), (1, .int p1), (2, .int p2), (3, .int p3), (4, .int p4), (5, .int p5)] → W p l e R s m args below meth c s.heap [] 0 0 Q (F0 m 68 ls [.int t0_68, .ref mo]) := by
    intro t0_68 hf hok ls hl
    refine mp_thrown C hM dX11_find_68 (fun H locs hM => ?_)
    refine lv_aload_n hx hb dX11_find_71 rfl (lv_at hl 0 rfl) ?_
    refine mg_thrown C hM dX11_find_72 ?_
    refine lv_if_le (tgt := 80) hx hb dX11_find_75 (by decide) (fun c_4 => ?_) (fun c_4 => ?_)
    · have hf := hf.trans (if_pos c_4)
      have hok := oif_pos hok c_4
      refine lv_iload_n hx hb dX11_find_80 rfl (lv_at hl 1 rfl) ?_
      refine lv_iload_n hx hb dX11_find_81 rfl (lv_at hl 2 rfl) ?_
      refine cc_S (av := [.int p1, .int p2]) C (k_X11_landOf l D a p1 p2) cw_X11_306 (okR_of hRf hRl (Nat.le_of_ble_eq_true rfl) (Nat.le_of_ble_eq_true rfl)) rfl rfl hl.1 (Nat.le_of_ble_eq_true rfl) (Nat.zero_le _) (Nat.zero_le _) dX11_find_82 ?_
      refine lv_istore (lv' := [(7, .int (f_X11_landOf p1 p2)), (0, .ref mo), (1, .int p1), (2, .int p2), (3, .int p3), (4, .int p4), (5, .int p5)]) hx hb dX11_find_85 hl (by decide) rfl (fun ls hl => ?_)
      refine lv_aload_n hx hb dX11_find_87 rfl (lv_at hl 1 rfl) ?_
      refine lv_iload_n hx hb dX11_find_88 rfl (lv_at hl 2 rfl) ?_
      refine lv_iload_n hx hb dX11_find_89 rfl (lv_at hl 3 rfl) ?_
      refine lv_iload_n hx hb dX11_find_90 rfl (lv_at hl 4 rfl) ?_
      refine lv_iload hx hb dX11_find_91 (lv_at hl 5 rfl) ?_
      refine lv_aload_n hx hb dX11_find_93 rfl (lv_at hl 1 rfl) ?_
      refine mg_laws C hM dX11_find_94 ?_
      refine lv_iload hx hb dX11_find_97 (lv_at hl 0 rfl) ?_
      have ok_5 := And.left hok
      have hok := And.right hok
      refine ma_laws C hM ok_5 dX11_find_99 ?_
      refine lv_iconst (v := 1) hx hb dX11_find_100 (by decide) ?_
      refine lv_icmp_ne (tgt := 112) hx hb dX11_find_101 (by decide) (fun c_6 => ?_) (fun c_6 => ?_)
      · have hf := hf.trans (if_neg c_6)
        have hok := oif_neg hok c_6
        refine lv_iload hx hb dX11_find_112 (lv_at hl 6 rfl) ?_
        exact J_114 p5 p4 p3 p2 p1 (mI μ 0 0 t0_68) hf hok _ _ ls hM (lv_sub hl [] rfl)
      · have hf := hf.trans (if_pos c_6)
        have hok := oif_pos hok c_6
        refine lv_bipush (v := 10) hx hb dX11_find_104 (by decide) ?_
        refine lv_iload hx hb dX11_find_106 (lv_at hl 0 rfl) ?_
        refine lv_iadd hx hb dX11_find_108 ?_
        refine lv_goto (tgt := 114) hx hb dX11_find_109 (by decide) ?_
        exact J_114 (10 + (f_X11_landOf p1 p2)) p4 p3 p2 p1 (mI μ 0 0 t0_68) hf hok _ _ ls hM (lv_sub hl [] rfl)
    · have hf := hf.trans (if_neg c_4)
      have hok := oif_neg hok c_4
      refine lv_iconst (v := 0) hx hb dX11_find_78 (by decide) ?_
      exact ret _ _ _ _ _ _ hM dX11_find_79 hf
  have J_42 : ∀ (t0_42 : Int32), (f_X11_find μ p1 p2 p3 p4 p5) = f_X11_find_42 μ p1 p2 p3 p4 p5 t0_42 → of_X11_find_42 μ p1 p2 p3 p4 p5 t0_42 → ∀ (ls : Array Slot), lv_has ls 8 [(0, .ref mo), (1, .int p1), (2, .int p2), (3, .int p3), (4, .int p4), (5, .int p5)] → W p l e R s m args below meth c s.heap [] 0 0 Q (F0 m 42 ls [.int t0_42]) := by
    intro t0_42 hf hok ls hl
    refine lv_istore (lv' := [(6, .int t0_42), (0, .ref mo), (1, .int p1), (2, .int p2), (3, .int p3), (4, .int p4), (5, .int p5)]) hx hb dX11_find_42 hl (by decide) rfl (fun ls hl => ?_)
    refine lv_aload_n hx hb dX11_find_44 rfl (lv_at hl 1 rfl) ?_
    refine lv_iload hx hb dX11_find_45 (lv_at hl 0 rfl) ?_
    refine lv_if_ne (tgt := 54) hx hb dX11_find_47 (by decide) (fun c_2 => ?_) (fun c_2 => ?_)
    · have hf := hf.trans (if_neg c_2)
      have hok := oif_neg hok c_2
      refine lv_aload_n hx hb dX11_find_54 rfl (lv_at hl 1 rfl) ?_
      refine mg_stones C hM dX11_find_55 ?_
      refine lv_bipush (v := 40) hx hb dX11_find_58 (by decide) ?_
      refine lv_icmp_ne (tgt := 67) hx hb dX11_find_60 (by decide) (fun c_3 => ?_) (fun c_3 => ?_)
      · have hf := hf.trans (if_neg c_3)
        have hok := oif_neg hok c_3
        refine lv_iconst (v := 0) hx hb dX11_find_67 (by decide) ?_
        exact J_68 0 hf hok ls (lv_sub hl [1, 2, 3, 4, 5, 6] rfl)
      · have hf := hf.trans (if_pos c_3)
        have hok := oif_pos hok c_3
        refine lv_iconst (v := 2) hx hb dX11_find_63 (by decide) ?_
        refine lv_goto (tgt := 68) hx hb dX11_find_64 (by decide) ?_
        exact J_68 2 hf hok ls (lv_sub hl [1, 2, 3, 4, 5, 6] rfl)
    · have hf := hf.trans (if_pos c_2)
      have hok := oif_pos hok c_2
      refine lv_iconst (v := 1) hx hb dX11_find_50 (by decide) ?_
      refine lv_goto (tgt := 68) hx hb dX11_find_51 (by decide) ?_
      exact J_68 1 hf hok ls (lv_sub hl [1, 2, 3, 4, 5, 6] rfl)
  refine lv_iload_n hx hb dX11_find_0 rfl (lv_at hl 1 rfl) ?_
  refine lv_iload_n hx hb dX11_find_1 rfl (lv_at hl 2 rfl) ?_
  refine cc_S (av := [.int p1, .int p2]) C (k_X11_isCell l D a p1 p2) cw_X11_296 (okR_of hRf hRl (Nat.le_of_ble_eq_true rfl) (Nat.le_of_ble_eq_true rfl)) rfl rfl hl.1 (Nat.le_of_ble_eq_true rfl) (Nat.zero_le _) (Nat.zero_le _) dX11_find_2 ?_
  refine lv_if_eq (tgt := 41) hx hb dX11_find_5 (by decide) (fun c_1 => ?_) (fun c_1 => ?_)
  · have hf := hf.trans (if_pos c_1)
    have hok := oif_pos hok c_1
    refine lv_iconst (v := 0) hx hb dX11_find_41 (by decide) ?_
    exact J_42 0 hf hok ls (lv_sub hl [0, 1, 2, 3, 4, 5] rfl)
  · have hf := hf.trans (if_neg c_1)
    have hok := oif_neg hok c_1
    refine lv_iload_n hx hb dX11_find_8 rfl (lv_at hl 3 rfl) ?_
    have ok_8 := And.left hok
    have hok := And.right hok
    refine cc_S (av := [.int p3]) C (k_X11_isNight l D a p3 ok_8) cw_X11_179 (okR_of hRf hRl (Nat.le_of_ble_eq_true rfl) (Nat.le_of_ble_eq_true rfl)) rfl rfl hl.1 (Nat.le_of_ble_eq_true rfl) (Nat.zero_le _) (Nat.zero_le _) dX11_find_9 ?_
    refine lv_if_eq (tgt := 41) hx hb dX11_find_12 (by decide) (fun c_9 => ?_) (fun c_9 => ?_)
    · have hf := hf.trans (if_pos c_9)
      have hok := oif_pos hok c_9
      refine lv_iconst (v := 0) hx hb dX11_find_41 (by decide) ?_
      exact J_42 0 hf hok ls (lv_sub hl [0, 1, 2, 3, 4, 5] rfl)
    · have hf := hf.trans (if_neg c_9)
      have hok := oif_neg hok c_9
      refine lv_iload hx hb dX11_find_15 (lv_at hl 4 rfl) ?_
      refine lv_iconst (v := 1) hx hb dX11_find_17 (by decide) ?_
      refine lv_ldcw (v := 1000000) hx hb hown (hts _ q_1532) dX11_find_18 ?_
      refine cc_S (av := [.int p4, .int 1, .int 1000000]) C (k_X11_isIn l D a p4 1 1000000) cw_X11_158 (okR_of hRf hRl (Nat.le_of_ble_eq_true rfl) (Nat.le_of_ble_eq_true rfl)) rfl rfl hl.1 (Nat.le_of_ble_eq_true rfl) (Nat.zero_le _) (Nat.zero_le _) dX11_find_21 ?_
      refine lv_if_eq (tgt := 41) hx hb dX11_find_24 (by decide) (fun c_10 => ?_) (fun c_10 => ?_)
      · have hf := hf.trans (if_pos c_10)
        have hok := oif_pos hok c_10
        refine lv_iconst (v := 0) hx hb dX11_find_41 (by decide) ?_
        exact J_42 0 hf hok ls (lv_sub hl [0, 1, 2, 3, 4, 5] rfl)
      · have hf := hf.trans (if_neg c_10)
        have hok := oif_neg hok c_10
        refine lv_iload hx hb dX11_find_27 (lv_at hl 5 rfl) ?_
        refine lv_iconst (v := 0) hx hb dX11_find_29 (by decide) ?_
        refine lv_iconst (v := 5) hx hb dX11_find_30 (by decide) ?_
        refine cc_S (av := [.int p5, .int 0, .int 5]) C (k_X11_isIn l D a p5 0 5) cw_X11_158 (okR_of hRf hRl (Nat.le_of_ble_eq_true rfl) (Nat.le_of_ble_eq_true rfl)) rfl rfl hl.1 (Nat.le_of_ble_eq_true rfl) (Nat.zero_le _) (Nat.zero_le _) dX11_find_31 ?_
        refine lv_if_eq (tgt := 41) hx hb dX11_find_34 (by decide) (fun c_11 => ?_) (fun c_11 => ?_)
        · have hf := hf.trans (if_pos c_11)
          have hok := oif_pos hok c_11
          refine lv_iconst (v := 0) hx hb dX11_find_41 (by decide) ?_
          exact J_42 0 hf hok ls (lv_sub hl [0, 1, 2, 3, 4, 5] rfl)
        · have hf := hf.trans (if_neg c_11)
          have hok := oif_neg hok c_11
          refine lv_iconst (v := 1) hx hb dX11_find_37 (by decide) ?_
          refine lv_goto (tgt := 42) hx hb dX11_find_38 (by decide) ?_
          exact J_42 1 hf hok ls (lv_sub hl [0, 1, 2, 3, 4, 5] rfl)
def f_X11_fallOf_l11_93 (p1 : Int32) (w2_11 : Int32) (w3_11 : Int64) (w5_11 : Int32) (μw_11 : MS) (v2_93 : Int32) (v3_93 : Int64) (v5_93 : Int32) (μ_93 : MS) : Bool × (Int32 × Int64 × Int32 × MS) := (true, (v2_93, v3_93, (v5_93 + 1), μ_93))
def f_X11_fallOf_l11_92 (p1 : Int32) (w2_11 : Int32) (w3_11 : Int64) (w5_11 : Int32) (μw_11 : MS) (v2_92 : Int32) (v5_92 : Int32) (t0_92 : Int64) (μ_92 : MS) : Bool × (Int32 × Int64 × Int32 × MS) := (f_X11_fallOf_l11_93 p1 w2_11 w3_11 w5_11 μw_11 v2_92 t0_92 v5_92 μ_92)
def f_X11_fallOf_l11_78 (p1 : Int32) (w2_11 : Int32) (w3_11 : Int64) (w5_11 : Int32) (μw_11 : MS) (v3_78 : Int64) (v5_78 : Int32) (v6_78 : Int64) (t0_78 : Int32) (μ_78 : MS) : Bool × (Int32 × Int64 × Int32 × MS) := (if (lg_cmp v6_78 v3_78) ≤ 0 then (f_X11_fallOf_l11_92 p1 w2_11 w3_11 w5_11 μw_11 t0_78 v5_78 v3_78 μ_78) else (f_X11_fallOf_l11_92 p1 w2_11 w3_11 w5_11 μw_11 t0_78 v5_78 v6_78 μ_78))
def f_X11_fallOf_l11_63 (p1 : Int32) (w2_11 : Int32) (w3_11 : Int64) (w5_11 : Int32) (μw_11 : MS) (v2_63 : Int32) (v3_63 : Int64) (v5_63 : Int32) (t0_63 : Int64) (μ_63 : MS) : Bool × (Int32 × Int64 × Int32 × MS) := (if (lg_cmp t0_63 v3_63) ≤ 0 then (f_X11_fallOf_l11_78 p1 w2_11 w3_11 w5_11 μw_11 v3_63 v5_63 t0_63 v2_63 μ_63) else (f_X11_fallOf_l11_78 p1 w2_11 w3_11 w5_11 μw_11 v3_63 v5_63 t0_63 v5_63 μ_63))
def b_X11_fallOf_11 (p1 : Int32) (w2_11 : Int32) (w3_11 : Int64) (w5_11 : Int32) (μw_11 : MS) : Bool × (Int32 × Int64 × Int32 × MS) := (if (mi μw_11 13 0) ≤ w5_11 then (false, (w2_11, w3_11, w5_11, μw_11)) else (if (f_X11_isFireball μw_11 w5_11) = 0 then (f_X11_fallOf_l11_93 p1 w2_11 w3_11 w5_11 μw_11 w2_11 w3_11 w5_11 μw_11) else (if (mi μw_11 49 (ix p1)) < (mi μw_11 15 (ix w5_11)) then (f_X11_fallOf_l11_93 p1 w2_11 w3_11 w5_11 μw_11 w2_11 w3_11 w5_11 μw_11) else (f_X11_fallOf_l11_63 p1 w2_11 w3_11 w5_11 μw_11 w2_11 w3_11 w5_11 ((f_X11_chanceOf μw_11 w5_11 (mi μw_11 47 (ix p1)) (mi μw_11 48 (ix p1))).1) ((f_X11_chanceOf μw_11 w5_11 (mi μw_11 47 (ix p1)) (mi μw_11 48 (ix p1))).2)))))
def ob_X11_fallOf_11 (p1 : Int32) (w2_11 : Int32) (w3_11 : Int64) (w5_11 : Int32) (μw_11 : MS) : Prop := (oif ((mi μw_11 13 0) ≤ w5_11) True (of_X11_isFireball μw_11 w5_11 ∧ (oif ((f_X11_isFireball μw_11 w5_11) = 0) True (vp_in w5_11 60 ∧ (vp_in p1 40 ∧ (oif ((mi μw_11 49 (ix p1)) < (mi μw_11 15 (ix w5_11))) True (vp_in p1 40 ∧ (vp_in p1 40 ∧ (of_X11_chanceOf μw_11 w5_11 (mi μw_11 47 (ix p1)) (mi μw_11 48 (ix p1)) ∧ True)))))))))
def s_X11_fallOf_11 (p1 : Int32) (v : Int32 × Int64 × Int32 × MS) : Bool × (Int32 × Int64 × Int32 × MS) := b_X11_fallOf_11 p1 v.1 v.2.1 v.2.2.1 v.2.2.2
def os_X11_fallOf_11 (p1 : Int32) (v : Int32 × Int64 × Int32 × MS) : Prop := ob_X11_fallOf_11 p1 v.1 v.2.1 v.2.2.1 v.2.2.2
def f_X11_fallOf_99 (μ : MS) (p1 : Int32) (v2_99 : Int32) (μ_99 : MS) : Int32 × MS := (v2_99, μ_99)
def f_X11_fallOf_11 (μ : MS) (p1 : Int32) (v2_11 : Int32) (v3_11 : Int64) (v5_11 : Int32) (μ_11 : MS) : Int32 × MS := (f_X11_fallOf_99 μ p1 ((itr (s_X11_fallOf_11 p1) FU (v2_11, v3_11, v5_11, μ_11)).1) ((itr (s_X11_fallOf_11 p1) FU (v2_11, v3_11, v5_11, μ_11)).2.2.2))
def of_X11_fallOf_11 (μ : MS) (p1 : Int32) (v2_11 : Int32) (v3_11 : Int64) (v5_11 : Int32) (μ_11 : MS) : Prop := (ito (s_X11_fallOf_11 p1) (os_X11_fallOf_11 p1) FU (v2_11, v3_11, v5_11, μ_11) ∧ True)
def f_X11_fallOf_4 (μ : MS) (p1 : Int32) (μ_4 : MS) : Int32 × MS := (f_X11_fallOf_11 μ p1 (-1) 0 0 μ_4)
def of_X11_fallOf_4 (μ : MS) (p1 : Int32) (μ_4 : MS) : Prop := (of_X11_fallOf_11 μ p1 (-1) 0 0 μ_4)
def f_X11_fallOf (μ : MS) (p1 : Int32) : Int32 × MS := (f_X11_fallOf_4 μ p1 (f_X11_spreads μ))
def of_X11_fallOf (μ : MS) (p1 : Int32) : Prop := (of_X11_spreads μ ∧ (of_X11_fallOf_4 μ p1 (f_X11_spreads μ)))
set_option maxHeartbeats 4000000 in
set_option maxRecDepth 100000 in
theorem k_X11_fallOf (l : Launch) (D : va_G) (a : Nat → ClassId) (mo : Nat) (μ : MS) (p1 : Int32) (hok : of_X11_fallOf μ p1) : KM l D a mo yX11_fallOf cX11_fallOf 8 ((some .int)) 7 185 [.int p1] μ (some (.int (f_X11_fallOf μ p1).1)) (f_X11_fallOf μ p1).2 := by
  refine goMi (by decide +kernel) (Nat.le_of_ble_eq_true rfl) ?_
  intro p e s m args below meth c ls R Q hRf hRl C hl hB
  obtain ⟨hM, ret⟩ := hB
  have hl : lv_has ls 8 [(0, .ref mo), (1, .int p1)] := hl
  have hx := C.1.1
  have hb := C.1.2.1
  have hts := C.1.2.2.2.2
  have hown := C.1.2.2.2.1
  have hf : (f_X11_fallOf μ p1) = (f_X11_fallOf μ p1) := rfl
  have J_99 : ∀ (v2_99 : Int32) (μ_99 : MS), (f_X11_fallOf μ p1) = f_X11_fallOf_99 μ p1 v2_99 μ_99 → ∀ (H : Heap) (locs : List Loc) (ls : Array Slot), HM D a mo μ_99 s.heap H locs → lv_has ls 8 [(2, .int v2_99)] → W p l e R s m args below meth c H locs 0 0 Q (F0 m 99 ls []) := by
    intro v2_99 μ_99 hf H locs ls hM hl
    refine lv_iload_n hx hb dX11_fallOf_99 rfl (lv_at hl 0 rfl) ?_
    exact ret _ _ _ _ _ _ hM dX11_fallOf_100 hf
  have J_11 : ∀ (v2_11 : Int32) (v3_11 : Int64) (v5_11 : Int32) (μ_11 : MS), (f_X11_fallOf μ p1) = f_X11_fallOf_11 μ p1 v2_11 v3_11 v5_11 μ_11 → of_X11_fallOf_11 μ p1 v2_11 v3_11 v5_11 μ_11 → ∀ (H : Heap) (locs : List Loc) (ls : Array Slot), HM D a mo μ_11 s.heap H locs → lv_has ls 8 [(0, .ref mo), (1, .int p1), (2, .int v2_11), (3, .long v3_11), (5, .int v5_11)] → W p l e R s m args below meth c H locs 0 0 Q (F0 m 11 ls []) := by
    intro v2_11 v3_11 v5_11 μ_11 hf hok H locs ls hM hl
    refine itr_W (f := (s_X11_fallOf_11 p1)) (o := (os_X11_fallOf_11 p1)) (fun (v : Int32 × Int64 × Int32 × MS) => ∀ (H : Heap) (locs : List Loc) (ls : Array Slot), HM D a mo v.2.2.2 s.heap H locs → lv_has ls 8 [(0, .ref mo), (1, .int p1), (2, .int v.1), (3, .long v.2.1), (5, .int v.2.2.1)] → W p l e R s m args below meth c H locs 0 0 Q (F0 m 11 ls [])) (fun (v : Int32 × Int64 × Int32 × MS) => ∀ (H : Heap) (locs : List Loc) (ls : Array Slot), HM D a mo v.2.2.2 s.heap H locs → lv_has ls 8 [(2, .int v.1)] → W p l e R s m args below meth c H locs 0 0 Q (F0 m 99 ls [])) ?_ FU (v2_11, v3_11, v5_11, μ_11) (And.left hok) ?_ _ _ ls hM (lv_sub hl [0, 1, 2, 3, 4] rfl)
    · intro v hov kc ke
      obtain ⟨w2_11, w3_11, w5_11, μw_11⟩ := v
      have hok : ob_X11_fallOf_11 p1 w2_11 w3_11 w5_11 μw_11 := hov
      change ∀ v', (b_X11_fallOf_11 p1 w2_11 w3_11 w5_11 μw_11) = (true, v') → _ at kc
      change ∀ v', (b_X11_fallOf_11 p1 w2_11 w3_11 w5_11 μw_11) = (false, v') → _ at ke
      have hf : (b_X11_fallOf_11 p1 w2_11 w3_11 w5_11 μw_11) = (b_X11_fallOf_11 p1 w2_11 w3_11 w5_11 μw_11) := rfl
      intro H locs ls hM hl
      have J_l11_93 : ∀ (v2_93 : Int32) (v3_93 : Int64) (v5_93 : Int32) (μ_93 : MS), (b_X11_fallOf_11 p1 w2_11 w3_11 w5_11 μw_11) = f_X11_fallOf_l11_93 p1 w2_11 w3_11 w5_11 μw_11 v2_93 v3_93 v5_93 μ_93 → ∀ (H : Heap) (locs : List Loc) (ls : Array Slot), HM D a mo μ_93 s.heap H locs → lv_has ls 8 [(0, .ref mo), (1, .int p1), (2, .int v2_93), (3, .long v3_93), (5, .int v5_93)] → W p l e R s m args below meth c H locs 0 0 Q (F0 m 93 ls []) := by
        intro v2_93 v3_93 v5_93 μ_93 hf H locs ls hM hl
        refine lv_iinc (v := (v5_93 + 1)) (lv' := [(5, .int (v5_93 + 1)), (0, .ref mo), (1, .int p1), (2, .int v2_93), (3, .long v3_93)]) hx hb dX11_fallOf_93 hl (k := 4) rfl rfl (by decide) rfl (fun ls hl => ?_)
        refine lv_goto (tgt := 11) hx hb dX11_fallOf_96 (by decide) ?_
        exact kc (v2_93, v3_93, (v5_93 + 1), μ_93) hf H locs ls hM (lv_sub hl [1, 2, 3, 4, 0] rfl)
      have J_l11_92 : ∀ (v2_92 : Int32) (v5_92 : Int32) (t0_92 : Int64) (μ_92 : MS), (b_X11_fallOf_11 p1 w2_11 w3_11 w5_11 μw_11) = f_X11_fallOf_l11_92 p1 w2_11 w3_11 w5_11 μw_11 v2_92 v5_92 t0_92 μ_92 → ∀ (H : Heap) (locs : List Loc) (ls : Array Slot), HM D a mo μ_92 s.heap H locs → lv_has ls 8 [(0, .ref mo), (1, .int p1), (2, .int v2_92), (5, .int v5_92)] → W p l e R s m args below meth c H locs 0 0 Q (F0 m 92 ls [.long t0_92]) := by
        intro v2_92 v5_92 t0_92 μ_92 hf H locs ls hM hl
        refine lv_lstore_n (lv' := [(3, .long t0_92), (0, .ref mo), (1, .int p1), (2, .int v2_92), (5, .int v5_92)]) hx hb dX11_fallOf_92 rfl hl (by decide) rfl (fun ls hl => ?_)
        exact J_l11_93 v2_92 t0_92 v5_92 μ_92 hf _ _ ls hM (lv_sub hl [1, 2, 3, 0, 4] rfl)
      have J_l11_78 : ∀ (v3_78 : Int64) (v5_78 : Int32) (v6_78 : Int64) (t0_78 : Int32) (μ_78 : MS), (b_X11_fallOf_11 p1 w2_11 w3_11 w5_11 μw_11) = f_X11_fallOf_l11_78 p1 w2_11 w3_11 w5_11 μw_11 v3_78 v5_78 v6_78 t0_78 μ_78 → ∀ (H : Heap) (locs : List Loc) (ls : Array Slot), HM D a mo μ_78 s.heap H locs → lv_has ls 8 [(0, .ref mo), (1, .int p1), (3, .long v3_78), (5, .int v5_78), (6, .long v6_78)] → W p l e R s m args below meth c H locs 0 0 Q (F0 m 78 ls [.int t0_78]) := by
        intro v3_78 v5_78 v6_78 t0_78 μ_78 hf H locs ls hM hl
        refine lv_istore_n (lv' := [(2, .int t0_78), (0, .ref mo), (1, .int p1), (3, .long v3_78), (5, .int v5_78), (6, .long v6_78)]) hx hb dX11_fallOf_78 rfl hl (by decide) rfl (fun ls hl => ?_)
        refine lv_lload hx hb dX11_fallOf_79 (lv_at hl 5 rfl) ?_
        refine lv_lload_n hx hb dX11_fallOf_81 rfl (lv_at hl 3 rfl) ?_
        refine W.lcmp hx hb dX11_fallOf_82 ?_
        refine lv_if_le (tgt := 91) hx hb dX11_fallOf_83 (by decide) (fun c_12 => ?_) (fun c_12 => ?_)
        · have hf := hf.trans (if_pos c_12)
          refine lv_lload_n hx hb dX11_fallOf_91 rfl (lv_at hl 3 rfl) ?_
          exact J_l11_92 t0_78 v5_78 v3_78 μ_78 hf _ _ ls hM (lv_sub hl [1, 2, 0, 4] rfl)
        · have hf := hf.trans (if_neg c_12)
          refine lv_lload hx hb dX11_fallOf_86 (lv_at hl 5 rfl) ?_
          refine lv_goto (tgt := 92) hx hb dX11_fallOf_88 (by decide) ?_
          exact J_l11_92 t0_78 v5_78 v6_78 μ_78 hf _ _ ls hM (lv_sub hl [1, 2, 0, 4] rfl)
      have J_l11_63 : ∀ (v2_63 : Int32) (v3_63 : Int64) (v5_63 : Int32) (t0_63 : Int64) (μ_63 : MS), (b_X11_fallOf_11 p1 w2_11 w3_11 w5_11 μw_11) = f_X11_fallOf_l11_63 p1 w2_11 w3_11 w5_11 μw_11 v2_63 v3_63 v5_63 t0_63 μ_63 → ∀ (H : Heap) (locs : List Loc) (ls : Array Slot), HM D a mo μ_63 s.heap H locs → lv_has ls 8 [(0, .ref mo), (1, .int p1), (2, .int v2_63), (3, .long v3_63), (5, .int v5_63)] → W p l e R s m args below meth c H locs 0 0 Q (F0 m 63 ls [.long t0_63]) := by
        intro v2_63 v3_63 v5_63 t0_63 μ_63 hf H locs ls hM hl
        refine lv_lstore (lv' := [(6, .long t0_63), (0, .ref mo), (1, .int p1), (2, .int v2_63), (3, .long v3_63), (5, .int v5_63)]) hx hb dX11_fallOf_63 hl (by decide) rfl (fun ls hl => ?_)
        refine lv_lload hx hb dX11_fallOf_65 (lv_at hl 0 rfl) ?_
        refine lv_lload_n hx hb dX11_fallOf_67 rfl (lv_at hl 4 rfl) ?_
        refine W.lcmp hx hb dX11_fallOf_68 ?_
        refine lv_if_le (tgt := 77) hx hb dX11_fallOf_69 (by decide) (fun c_11 => ?_) (fun c_11 => ?_)
        · have hf := hf.trans (if_pos c_11)
          refine lv_iload_n hx hb dX11_fallOf_77 rfl (lv_at hl 3 rfl) ?_
          exact J_l11_78 v3_63 v5_63 t0_63 v2_63 μ_63 hf _ _ ls hM (lv_sub hl [1, 2, 4, 5, 0] rfl)
        · have hf := hf.trans (if_neg c_11)
          refine lv_iload hx hb dX11_fallOf_72 (lv_at hl 5 rfl) ?_
          refine lv_goto (tgt := 78) hx hb dX11_fallOf_74 (by decide) ?_
          exact J_l11_78 v3_63 v5_63 t0_63 v5_63 μ_63 hf _ _ ls hM (lv_sub hl [1, 2, 4, 5, 0] rfl)
      refine lv_iload hx hb dX11_fallOf_11 (lv_at hl 4 rfl) ?_
      refine lv_aload_n hx hb dX11_fallOf_13 rfl (lv_at hl 0 rfl) ?_
      refine mg_sightings C hM dX11_fallOf_14 ?_
      refine lv_icmp_ge (tgt := 99) hx hb dX11_fallOf_17 (by decide) (fun c_2 => ?_) (fun c_2 => ?_)
      · have hf := hf.trans (if_pos c_2)
        have hok := oif_pos hok c_2
        exact ke (w2_11, w3_11, w5_11, μw_11) hf H locs ls hM (lv_sub hl [2] rfl)
      · have hf := hf.trans (if_neg c_2)
        have hok := oif_neg hok c_2
        refine lv_aload_n hx hb dX11_fallOf_20 rfl (lv_at hl 0 rfl) ?_
        refine lv_iload hx hb dX11_fallOf_21 (lv_at hl 4 rfl) ?_
        have ok_3 := And.left hok
        have hok := And.right hok
        refine cc_R (av := [.int w5_11]) C hM (k_X11_isFireball l D a mo μw_11 w5_11 ok_3) cw_X11_236 (okR_of hRf hRl (Nat.le_of_ble_eq_true rfl) (Nat.le_of_ble_eq_true rfl)) rfl rfl hl.1 (Nat.le_of_ble_eq_true rfl) (Nat.zero_le _) (Nat.zero_le _) dX11_fallOf_23 ?_
        refine lv_if_eq (tgt := 93) hx hb dX11_fallOf_26 (by decide) (fun c_4 => ?_) (fun c_4 => ?_)
        · have hf := hf.trans (if_pos c_4)
          have hok := oif_pos hok c_4
          exact J_l11_93 w2_11 w3_11 w5_11 μw_11 hf _ _ ls hM (lv_sub hl [0, 1, 2, 3, 4] rfl)
        · have hf := hf.trans (if_neg c_4)
          have hok := oif_neg hok c_4
          refine lv_aload_n hx hb dX11_fallOf_29 rfl (lv_at hl 0 rfl) ?_
          refine mg_nights C hM dX11_fallOf_30 ?_
          refine lv_iload hx hb dX11_fallOf_33 (lv_at hl 4 rfl) ?_
          have ok_5 := And.left hok
          have hok := And.right hok
          refine ma_nights C hM ok_5 dX11_fallOf_35 ?_
          refine lv_aload_n hx hb dX11_fallOf_36 rfl (lv_at hl 0 rfl) ?_
          refine mg_stoneNights C hM dX11_fallOf_37 ?_
          refine lv_iload_n hx hb dX11_fallOf_40 rfl (lv_at hl 1 rfl) ?_
          have ok_6 := And.left hok
          have hok := And.right hok
          refine ma_stoneNights C hM ok_6 dX11_fallOf_41 ?_
          refine lv_icmp_gt (tgt := 93) hx hb dX11_fallOf_42 (by decide) (fun c_7 => ?_) (fun c_7 => ?_)
          · have hf := hf.trans (if_pos c_7)
            have hok := oif_pos hok c_7
            exact J_l11_93 w2_11 w3_11 w5_11 μw_11 hf _ _ ls hM (lv_sub hl [0, 1, 2, 3, 4] rfl)
          · have hf := hf.trans (if_neg c_7)
            have hok := oif_neg hok c_7
            refine lv_aload_n hx hb dX11_fallOf_45 rfl (lv_at hl 0 rfl) ?_
            refine lv_iload hx hb dX11_fallOf_46 (lv_at hl 4 rfl) ?_
            refine lv_aload_n hx hb dX11_fallOf_48 rfl (lv_at hl 0 rfl) ?_
            refine mg_stoneX C hM dX11_fallOf_49 ?_
            refine lv_iload_n hx hb dX11_fallOf_52 rfl (lv_at hl 1 rfl) ?_
            have ok_8 := And.left hok
            have hok := And.right hok
            refine ma_stoneX C hM ok_8 dX11_fallOf_53 ?_
            refine lv_aload_n hx hb dX11_fallOf_54 rfl (lv_at hl 0 rfl) ?_
            refine mg_stoneY C hM dX11_fallOf_55 ?_
            refine lv_iload_n hx hb dX11_fallOf_58 rfl (lv_at hl 1 rfl) ?_
            have ok_9 := And.left hok
            have hok := And.right hok
            refine ma_stoneY C hM ok_9 dX11_fallOf_59 ?_
            have ok_10 := And.left hok
            have hok := And.right hok
            refine cc_M (av := [.int w5_11, .int (mi μw_11 47 (ix p1)), .int (mi μw_11 48 (ix p1))]) C hM (k_X11_chanceOf l D a mo μw_11 w5_11 (mi μw_11 47 (ix p1)) (mi μw_11 48 (ix p1)) ok_10) cw_X11_299 (okR_of hRf hRl (Nat.le_of_ble_eq_true rfl) (Nat.le_of_ble_eq_true rfl)) rfl rfl hl.1 (Nat.le_of_ble_eq_true rfl) (Nat.zero_le _) (Nat.zero_le _) dX11_fallOf_60 (fun H locs hM => ?_)
            exact J_l11_63 w2_11 w3_11 w5_11 ((f_X11_chanceOf μw_11 w5_11 (mi μw_11 47 (ix p1)) (mi μw_11 48 (ix p1))).1) ((f_X11_chanceOf μw_11 w5_11 (mi μw_11 47 (ix p1)) (mi μw_11 48 (ix p1))).2) hf _ _ ls hM (lv_sub hl [0, 1, 2, 3, 4] rfl)
    · have hok := And.right hok
      intro H locs ls hM hl
      exact J_99 ((itr (s_X11_fallOf_11 p1) FU (v2_11, v3_11, v5_11, μ_11)).1) ((itr (s_X11_fallOf_11 p1) FU (v2_11, v3_11, v5_11, μ_11)).2.2.2) hf _ _ ls hM (lv_sub hl [0] rfl)
  have J_4 : ∀ (μ_4 : MS), (f_X11_fallOf μ p1) = f_X11_fallOf_4 μ p1 μ_4 → of_X11_fallOf_4 μ p1 μ_4 → ∀ (H : Heap) (locs : List Loc) (ls : Array Slot), HM D a mo μ_4 s.heap H locs → lv_has ls 8 [(0, .ref mo), (1, .int p1)] → W p l e R s m args below meth c H locs 0 0 Q (F0 m 4 ls []) := by
    intro μ_4 hf hok H locs ls hM hl
    refine lv_iconst (v := (-1)) hx hb dX11_fallOf_4 (by decide) ?_
    refine lv_istore_n (lv' := [(2, .int (-1)), (0, .ref mo), (1, .int p1)]) hx hb dX11_fallOf_5 rfl hl (by decide) rfl (fun ls hl => ?_)
    refine lv_lconst (v := 0) hx hb dX11_fallOf_6 (by decide) ?_
    refine lv_lstore_n (lv' := [(3, .long 0), (2, .int (-1)), (0, .ref mo), (1, .int p1)]) hx hb dX11_fallOf_7 rfl hl (by decide) rfl (fun ls hl => ?_)
    refine lv_iconst (v := 0) hx hb dX11_fallOf_8 (by decide) ?_
    refine lv_istore (lv' := [(5, .int 0), (3, .long 0), (2, .int (-1)), (0, .ref mo), (1, .int p1)]) hx hb dX11_fallOf_9 hl (by decide) rfl (fun ls hl => ?_)
    exact J_11 (-1) 0 0 μ_4 hf hok _ _ ls hM (lv_sub hl [3, 4, 2, 1, 0] rfl)
  refine lv_aload_n hx hb dX11_fallOf_0 rfl (lv_at hl 0 rfl) ?_
  have ok_1 := And.left hok
  have hok := And.right hok
  refine cc_M (av := []) C hM (k_X11_spreads l D a mo μ ok_1) cw_X11_229 (okR_of hRf hRl (Nat.le_of_ble_eq_true rfl) (Nat.le_of_ble_eq_true rfl)) rfl rfl hl.1 (Nat.le_of_ble_eq_true rfl) (Nat.zero_le _) (Nat.zero_le _) dX11_fallOf_1 (fun H locs hM => ?_)
  exact J_4 (f_X11_spreads μ) hf hok _ _ ls hM (lv_sub hl [0, 1] rfl)
def f_X11_fall_14 (μ : MS) (p1 : Int32) (t0_14 : Int32) : Int32 × MS := (if t0_14 ≤ 0 then ((f_X11_fallOf (mI μ 0 0 t0_14) p1).1, (f_X11_fallOf (mI μ 0 0 t0_14) p1).2) else (0, (mI μ 0 0 t0_14)))
def of_X11_fall_14 (μ : MS) (p1 : Int32) (t0_14 : Int32) : Prop := (oif (t0_14 ≤ 0) (of_X11_fallOf (mI μ 0 0 t0_14) p1 ∧ True) True)
def f_X11_fall (μ : MS) (p1 : Int32) : Int32 × MS := (if (f_X11_isStone μ p1) = 0 then (f_X11_fall_14 μ p1 1) else (f_X11_fall_14 μ p1 0))
def of_X11_fall (μ : MS) (p1 : Int32) : Prop := (of_X11_isStone μ p1 ∧ (oif ((f_X11_isStone μ p1) = 0) (of_X11_fall_14 μ p1 1) (of_X11_fall_14 μ p1 0)))
set_option maxHeartbeats 4000000 in
set_option maxRecDepth 100000 in
theorem k_X11_fall (l : Launch) (D : va_G) (a : Nat → ClassId) (mo : Nat) (μ : MS) (p1 : Int32) (hok : of_X11_fall μ p1) : KM l D a mo yX11_fall cX11_fall 2 ((some .int)) 8 212 [.int p1] μ (some (.int (f_X11_fall μ p1).1)) (f_X11_fall μ p1).2 := by
  refine goMi (by decide +kernel) (Nat.le_of_ble_eq_true rfl) ?_
  intro p e s m args below meth c ls R Q hRf hRl C hl hB
  obtain ⟨hM, ret⟩ := hB
  have hl : lv_has ls 2 [(0, .ref mo), (1, .int p1)] := hl
  have hx := C.1.1
  have hb := C.1.2.1
  have hts := C.1.2.2.2.2
  have hown := C.1.2.2.2.1
  have hf : (f_X11_fall μ p1) = (f_X11_fall μ p1) := rfl
  have J_14 : ∀ (t0_14 : Int32), (f_X11_fall μ p1) = f_X11_fall_14 μ p1 t0_14 → of_X11_fall_14 μ p1 t0_14 → ∀ (ls : Array Slot), lv_has ls 2 [(0, .ref mo), (1, .int p1)] → W p l e R s m args below meth c s.heap [] 0 0 Q (F0 m 14 ls [.int t0_14, .ref mo]) := by
    intro t0_14 hf hok ls hl
    refine mp_thrown C hM dX11_fall_14 (fun H locs hM => ?_)
    refine lv_aload_n hx hb dX11_fall_17 rfl (lv_at hl 0 rfl) ?_
    refine mg_thrown C hM dX11_fall_18 ?_
    refine lv_if_le (tgt := 28) hx hb dX11_fall_21 (by decide) (fun c_3 => ?_) (fun c_3 => ?_)
    · have hf := hf.trans (if_pos c_3)
      have hok := oif_pos hok c_3
      refine lv_aload_n hx hb dX11_fall_28 rfl (lv_at hl 0 rfl) ?_
      refine lv_iload_n hx hb dX11_fall_29 rfl (lv_at hl 1 rfl) ?_
      have ok_4 := And.left hok
      have hok := And.right hok
      refine cc_M (av := [.int p1]) C hM (k_X11_fallOf l D a mo (mI μ 0 0 t0_14) p1 ok_4) cw_X11_317 (okR_of hRf hRl (Nat.le_of_ble_eq_true rfl) (Nat.le_of_ble_eq_true rfl)) rfl rfl hl.1 (Nat.le_of_ble_eq_true rfl) (Nat.zero_le _) (Nat.zero_le _) dX11_fall_30 (fun H locs hM => ?_)
      exact ret _ _ _ _ _ _ hM dX11_fall_33 hf
    · have hf := hf.trans (if_neg c_3)
      have hok := oif_neg hok c_3
      refine lv_iconst (v := 0) hx hb dX11_fall_24 (by decide) ?_
      refine lv_goto (tgt := 33) hx hb dX11_fall_25 (by decide) ?_
      exact ret _ _ _ _ _ _ hM dX11_fall_33 hf
  refine lv_aload_n hx hb dX11_fall_0 rfl (lv_at hl 0 rfl) ?_
  refine lv_aload_n hx hb dX11_fall_1 rfl (lv_at hl 0 rfl) ?_
  refine lv_iload_n hx hb dX11_fall_2 rfl (lv_at hl 1 rfl) ?_
  have ok_1 := And.left hok
  have hok := And.right hok
  refine cc_R (av := [.int p1]) C hM (k_X11_isStone l D a mo μ p1 ok_1) cw_X11_314 (okR_of hRf hRl (Nat.le_of_ble_eq_true rfl) (Nat.le_of_ble_eq_true rfl)) rfl rfl hl.1 (Nat.le_of_ble_eq_true rfl) (Nat.zero_le _) (Nat.zero_le _) dX11_fall_3 ?_
  refine lv_if_eq (tgt := 13) hx hb dX11_fall_6 (by decide) (fun c_2 => ?_) (fun c_2 => ?_)
  · have hf := hf.trans (if_pos c_2)
    have hok := oif_pos hok c_2
    refine lv_iconst (v := 1) hx hb dX11_fall_13 (by decide) ?_
    exact J_14 1 hf hok ls (lv_sub hl [0, 1] rfl)
  · have hf := hf.trans (if_neg c_2)
    have hok := oif_neg hok c_2
    refine lv_iconst (v := 0) hx hb dX11_fall_9 (by decide) ?_
    refine lv_goto (tgt := 14) hx hb dX11_fall_10 (by decide) ?_
    exact J_14 0 hf hok ls (lv_sub hl [0, 1] rfl)
def f_X11_minerals_62 (μ : MS) (p1 : Int32) (p2 : Int32) (p3 : Int32) (p4 : Int32) (t0_62 : Int32) : MS := (if t0_62 = 0 then (mI (mI (mI (mI (mI μ 0 0 t0_62) 56 (ix p1) (bz 1)) 57 (ix p1) p2) 58 (ix p1) p3) 59 (ix p1) p4) else (mI μ 0 0 t0_62))
def of_X11_minerals_62 (μ : MS) (p1 : Int32) (p2 : Int32) (p3 : Int32) (p4 : Int32) (t0_62 : Int32) : Prop := (oif (t0_62 = 0) (vp_in p1 40 ∧ (vp_in p1 40 ∧ (vp_in p1 40 ∧ (vp_in p1 40 ∧ True)))) True)
def f_X11_minerals_37 (μ : MS) (p1 : Int32) (p2 : Int32) (p3 : Int32) (p4 : Int32) (t0_37 : Int32) : MS := (if (f_X11_isStone μ p1) = 0 then (f_X11_minerals_62 μ p1 p2 p3 p4 1) else (if t0_37 = 0 then (f_X11_minerals_62 μ p1 p2 p3 p4 2) else (f_X11_minerals_62 μ p1 p2 p3 p4 0)))
def of_X11_minerals_37 (μ : MS) (p1 : Int32) (p2 : Int32) (p3 : Int32) (p4 : Int32) (t0_37 : Int32) : Prop := (of_X11_isStone μ p1 ∧ (oif ((f_X11_isStone μ p1) = 0) (of_X11_minerals_62 μ p1 p2 p3 p4 1) (oif (t0_37 = 0) (of_X11_minerals_62 μ p1 p2 p3 p4 2) (of_X11_minerals_62 μ p1 p2 p3 p4 0))))
def f_X11_minerals (μ : MS) (p1 : Int32) (p2 : Int32) (p3 : Int32) (p4 : Int32) : MS := (if (f_X11_isIn p2 0 1000) = 0 then (f_X11_minerals_37 μ p1 p2 p3 p4 0) else (if (f_X11_isIn p3 0 9) = 0 then (f_X11_minerals_37 μ p1 p2 p3 p4 0) else (if (f_X11_isIn p4 0 9) = 0 then (f_X11_minerals_37 μ p1 p2 p3 p4 0) else (f_X11_minerals_37 μ p1 p2 p3 p4 1))))
def of_X11_minerals (μ : MS) (p1 : Int32) (p2 : Int32) (p3 : Int32) (p4 : Int32) : Prop := (oif ((f_X11_isIn p2 0 1000) = 0) (of_X11_minerals_37 μ p1 p2 p3 p4 0) (oif ((f_X11_isIn p3 0 9) = 0) (of_X11_minerals_37 μ p1 p2 p3 p4 0) (oif ((f_X11_isIn p4 0 9) = 0) (of_X11_minerals_37 μ p1 p2 p3 p4 0) (of_X11_minerals_37 μ p1 p2 p3 p4 1))))
set_option maxHeartbeats 4000000 in
set_option maxRecDepth 100000 in
theorem k_X11_minerals (l : Launch) (D : va_G) (a : Nat → ClassId) (mo : Nat) (μ : MS) (p1 : Int32) (p2 : Int32) (p3 : Int32) (p4 : Int32) (hok : of_X11_minerals μ p1 p2 p3 p4) : KM l D a mo yX11_minerals cX11_minerals 6 none 2 43 [.int p1, .int p2, .int p3, .int p4] μ none (f_X11_minerals μ p1 p2 p3 p4) := by
  refine goMv (by decide +kernel) (Nat.le_of_ble_eq_true rfl) ?_
  intro p e s m args below meth c ls R Q hRf hRl C hl hB
  obtain ⟨hM, ret⟩ := hB
  have hl : lv_has ls 6 [(0, .ref mo), (1, .int p1), (2, .int p2), (3, .int p3), (4, .int p4)] := hl
  have hx := C.1.1
  have hb := C.1.2.1
  have hts := C.1.2.2.2.2
  have hown := C.1.2.2.2.1
  have hf : (f_X11_minerals μ p1 p2 p3 p4) = (f_X11_minerals μ p1 p2 p3 p4) := rfl
  have J_62 : ∀ (t0_62 : Int32), (f_X11_minerals μ p1 p2 p3 p4) = f_X11_minerals_62 μ p1 p2 p3 p4 t0_62 → of_X11_minerals_62 μ p1 p2 p3 p4 t0_62 → ∀ (ls : Array Slot), lv_has ls 6 [(0, .ref mo), (1, .int p1), (2, .int p2), (3, .int p3), (4, .int p4)] → W p l e R s m args below meth c s.heap [] 0 0 Q (F0 m 62 ls [.int t0_62, .ref mo]) := by
    intro t0_62 hf hok ls hl
    refine mp_thrown C hM dX11_minerals_62 (fun H locs hM => ?_)
    refine lv_aload_n hx hb dX11_minerals_65 rfl (lv_at hl 0 rfl) ?_
    refine mg_thrown C hM dX11_minerals_66 ?_
    refine lv_if_ne (tgt := 101) hx hb dX11_minerals_69 (by decide) (fun c_5 => ?_) (fun c_5 => ?_)
    · have hf := hf.trans (if_neg c_5)
      have hok := oif_neg hok c_5
      exact ret _ _ _ _ _ hM dX11_minerals_101 hf
    · have hf := hf.trans (if_pos c_5)
      have hok := oif_pos hok c_5
      refine lv_aload_n hx hb dX11_minerals_72 rfl (lv_at hl 0 rfl) ?_
      refine mg_areTold C hM dX11_minerals_73 ?_
      refine lv_iload_n hx hb dX11_minerals_76 rfl (lv_at hl 1 rfl) ?_
      refine lv_iconst (v := 1) hx hb dX11_minerals_77 (by decide) ?_
      have ok_6 := And.left hok
      have hok := And.right hok
      refine ms_areTold C hM ok_6 dX11_minerals_78 (fun H locs hM => ?_)
      refine lv_aload_n hx hb dX11_minerals_79 rfl (lv_at hl 0 rfl) ?_
      refine mg_irons C hM dX11_minerals_80 ?_
      refine lv_iload_n hx hb dX11_minerals_83 rfl (lv_at hl 1 rfl) ?_
      refine lv_iload_n hx hb dX11_minerals_84 rfl (lv_at hl 2 rfl) ?_
      have ok_7 := And.left hok
      have hok := And.right hok
      refine ms_irons C hM ok_7 dX11_minerals_85 (fun H locs hM => ?_)
      refine lv_aload_n hx hb dX11_minerals_86 rfl (lv_at hl 0 rfl) ?_
      refine mg_textures C hM dX11_minerals_87 ?_
      refine lv_iload_n hx hb dX11_minerals_90 rfl (lv_at hl 1 rfl) ?_
      refine lv_iload_n hx hb dX11_minerals_91 rfl (lv_at hl 3 rfl) ?_
      have ok_8 := And.left hok
      have hok := And.right hok
      refine ms_textures C hM ok_8 dX11_minerals_92 (fun H locs hM => ?_)
      refine lv_aload_n hx hb dX11_minerals_93 rfl (lv_at hl 0 rfl) ?_
      refine mg_shocks C hM dX11_minerals_94 ?_
      refine lv_iload_n hx hb dX11_minerals_97 rfl (lv_at hl 1 rfl) ?_
      refine lv_iload hx hb dX11_minerals_98 (lv_at hl 4 rfl) ?_
      have ok_9 := And.left hok
      have hok := And.right hok
      refine ms_shocks C hM ok_9 dX11_minerals_100 (fun H locs hM => ?_)
      exact ret _ _ _ _ _ hM dX11_minerals_101 hf
  have J_37 : ∀ (t0_37 : Int32), (f_X11_minerals μ p1 p2 p3 p4) = f_X11_minerals_37 μ p1 p2 p3 p4 t0_37 → of_X11_minerals_37 μ p1 p2 p3 p4 t0_37 → ∀ (ls : Array Slot), lv_has ls 6 [(0, .ref mo), (1, .int p1), (2, .int p2), (3, .int p3), (4, .int p4)] → W p l e R s m args below meth c s.heap [] 0 0 Q (F0 m 37 ls [.int t0_37]) := by
    intro t0_37 hf hok ls hl
    refine lv_istore (lv' := [(5, .int t0_37), (0, .ref mo), (1, .int p1), (2, .int p2), (3, .int p3), (4, .int p4)]) hx hb dX11_minerals_37 hl (by decide) rfl (fun ls hl => ?_)
    refine lv_aload_n hx hb dX11_minerals_39 rfl (lv_at hl 1 rfl) ?_
    refine lv_aload_n hx hb dX11_minerals_40 rfl (lv_at hl 1 rfl) ?_
    refine lv_iload_n hx hb dX11_minerals_41 rfl (lv_at hl 2 rfl) ?_
    have ok_2 := And.left hok
    have hok := And.right hok
    refine cc_R (av := [.int p1]) C hM (k_X11_isStone l D a mo μ p1 ok_2) cw_X11_314 (okR_of hRf hRl (Nat.le_of_ble_eq_true rfl) (Nat.le_of_ble_eq_true rfl)) rfl rfl hl.1 (Nat.le_of_ble_eq_true rfl) (Nat.zero_le _) (Nat.zero_le _) dX11_minerals_42 ?_
    refine lv_if_ne (tgt := 52) hx hb dX11_minerals_45 (by decide) (fun c_3 => ?_) (fun c_3 => ?_)
    · have hf := hf.trans (if_neg c_3)
      have hok := oif_neg hok c_3
      refine lv_iload hx hb dX11_minerals_52 (lv_at hl 0 rfl) ?_
      refine lv_if_ne (tgt := 61) hx hb dX11_minerals_54 (by decide) (fun c_4 => ?_) (fun c_4 => ?_)
      · have hf := hf.trans (if_neg c_4)
        have hok := oif_neg hok c_4
        refine lv_iconst (v := 0) hx hb dX11_minerals_61 (by decide) ?_
        exact J_62 0 hf hok ls (lv_sub hl [1, 2, 3, 4, 5] rfl)
      · have hf := hf.trans (if_pos c_4)
        have hok := oif_pos hok c_4
        refine lv_iconst (v := 2) hx hb dX11_minerals_57 (by decide) ?_
        refine lv_goto (tgt := 62) hx hb dX11_minerals_58 (by decide) ?_
        exact J_62 2 hf hok ls (lv_sub hl [1, 2, 3, 4, 5] rfl)
    · have hf := hf.trans (if_pos c_3)
      have hok := oif_pos hok c_3
      refine lv_iconst (v := 1) hx hb dX11_minerals_48 (by decide) ?_
      refine lv_goto (tgt := 62) hx hb dX11_minerals_49 (by decide) ?_
      exact J_62 1 hf hok ls (lv_sub hl [1, 2, 3, 4, 5] rfl)
  refine lv_iload_n hx hb dX11_minerals_0 rfl (lv_at hl 2 rfl) ?_
  refine lv_iconst (v := 0) hx hb dX11_minerals_1 (by decide) ?_
  refine lv_sipush (v := 1000) hx hb dX11_minerals_2 (by decide) ?_
  refine cc_S (av := [.int p2, .int 0, .int 1000]) C (k_X11_isIn l D a p2 0 1000) cw_X11_158 (okR_of hRf hRl (Nat.le_of_ble_eq_true rfl) (Nat.le_of_ble_eq_true rfl)) rfl rfl hl.1 (Nat.le_of_ble_eq_true rfl) (Nat.zero_le _) (Nat.zero_le _) dX11_minerals_5 ?_
  refine lv_if_eq (tgt := 36) hx hb dX11_minerals_8 (by decide) (fun c_1 => ?_) (fun c_1 => ?_)
  · have hf := hf.trans (if_pos c_1)
    have hok := oif_pos hok c_1
    refine lv_iconst (v := 0) hx hb dX11_minerals_36 (by decide) ?_
    exact J_37 0 hf hok ls (lv_sub hl [0, 1, 2, 3, 4] rfl)
  · have hf := hf.trans (if_neg c_1)
    have hok := oif_neg hok c_1
    refine lv_iload_n hx hb dX11_minerals_11 rfl (lv_at hl 3 rfl) ?_
    refine lv_iconst (v := 0) hx hb dX11_minerals_12 (by decide) ?_
    refine lv_bipush (v := 9) hx hb dX11_minerals_13 (by decide) ?_
    refine cc_S (av := [.int p3, .int 0, .int 9]) C (k_X11_isIn l D a p3 0 9) cw_X11_158 (okR_of hRf hRl (Nat.le_of_ble_eq_true rfl) (Nat.le_of_ble_eq_true rfl)) rfl rfl hl.1 (Nat.le_of_ble_eq_true rfl) (Nat.zero_le _) (Nat.zero_le _) dX11_minerals_15 ?_
    refine lv_if_eq (tgt := 36) hx hb dX11_minerals_18 (by decide) (fun c_10 => ?_) (fun c_10 => ?_)
    · have hf := hf.trans (if_pos c_10)
      have hok := oif_pos hok c_10
      refine lv_iconst (v := 0) hx hb dX11_minerals_36 (by decide) ?_
      exact J_37 0 hf hok ls (lv_sub hl [0, 1, 2, 3, 4] rfl)
    · have hf := hf.trans (if_neg c_10)
      have hok := oif_neg hok c_10
      refine lv_iload hx hb dX11_minerals_21 (lv_at hl 4 rfl) ?_
      refine lv_iconst (v := 0) hx hb dX11_minerals_23 (by decide) ?_
      refine lv_bipush (v := 9) hx hb dX11_minerals_24 (by decide) ?_
      refine cc_S (av := [.int p4, .int 0, .int 9]) C (k_X11_isIn l D a p4 0 9) cw_X11_158 (okR_of hRf hRl (Nat.le_of_ble_eq_true rfl) (Nat.le_of_ble_eq_true rfl)) rfl rfl hl.1 (Nat.le_of_ble_eq_true rfl) (Nat.zero_le _) (Nat.zero_le _) dX11_minerals_26 ?_
      refine lv_if_eq (tgt := 36) hx hb dX11_minerals_29 (by decide) (fun c_11 => ?_) (fun c_11 => ?_)
      · have hf := hf.trans (if_pos c_11)
        have hok := oif_pos hok c_11
        refine lv_iconst (v := 0) hx hb dX11_minerals_36 (by decide) ?_
        exact J_37 0 hf hok ls (lv_sub hl [0, 1, 2, 3, 4] rfl)
      · have hf := hf.trans (if_neg c_11)
        have hok := oif_neg hok c_11
        refine lv_iconst (v := 1) hx hb dX11_minerals_32 (by decide) ?_
        refine lv_goto (tgt := 37) hx hb dX11_minerals_33 (by decide) ?_
        exact J_37 1 hf hok ls (lv_sub hl [0, 1, 2, 3, 4] rfl)
def f_X11_rule_36 (μ : MS) (p1 : Int32) (p2 : Int32) (p3 : Int32) (t0_36 : Int32) : MS := (if t0_36 = 0 then (mI (mI (mI (mI μ 0 0 t0_36) 63 (ix p1) (bz 1)) 64 (ix p1) p2) 65 (ix p1) p3) else (mI μ 0 0 t0_36))
def of_X11_rule_36 (μ : MS) (p1 : Int32) (p2 : Int32) (p3 : Int32) (t0_36 : Int32) : Prop := (oif (t0_36 = 0) (vp_in p1 10 ∧ (vp_in p1 10 ∧ (vp_in p1 10 ∧ True))) True)
def f_X11_rule (μ : MS) (p1 : Int32) (p2 : Int32) (p3 : Int32) : MS := (if (f_X11_isIn p1 0 9) = 0 then (f_X11_rule_36 μ p1 p2 p3 1) else (if (f_X11_isIn p2 0 1000) = 0 then (f_X11_rule_36 μ p1 p2 p3 1) else (if (f_X11_isIn p3 0 p2) = 0 then (f_X11_rule_36 μ p1 p2 p3 1) else (f_X11_rule_36 μ p1 p2 p3 0))))
def of_X11_rule (μ : MS) (p1 : Int32) (p2 : Int32) (p3 : Int32) : Prop := (oif ((f_X11_isIn p1 0 9) = 0) (of_X11_rule_36 μ p1 p2 p3 1) (oif ((f_X11_isIn p2 0 1000) = 0) (of_X11_rule_36 μ p1 p2 p3 1) (oif ((f_X11_isIn p3 0 p2) = 0) (of_X11_rule_36 μ p1 p2 p3 1) (of_X11_rule_36 μ p1 p2 p3 0))))
set_option maxHeartbeats 4000000 in
set_option maxRecDepth 100000 in
theorem k_X11_rule (l : Launch) (D : va_G) (a : Nat → ClassId) (mo : Nat) (μ : MS) (p1 : Int32) (p2 : Int32) (p3 : Int32) (hok : of_X11_rule μ p1 p2 p3) : KM l D a mo yX11_rule cX11_rule 4 none 1 22 [.int p1, .int p2, .int p3] μ none (f_X11_rule μ p1 p2 p3) := by
  refine goMv (by decide +kernel) (Nat.le_of_ble_eq_true rfl) ?_
  intro p e s m args below meth c ls R Q hRf hRl C hl hB
  obtain ⟨hM, ret⟩ := hB
  have hl : lv_has ls 4 [(0, .ref mo), (1, .int p1), (2, .int p2), (3, .int p3)] := hl
  have hx := C.1.1
  have hb := C.1.2.1
  have hts := C.1.2.2.2.2
  have hown := C.1.2.2.2.1
  have hf : (f_X11_rule μ p1 p2 p3) = (f_X11_rule μ p1 p2 p3) := rfl
  have J_36 : ∀ (t0_36 : Int32), (f_X11_rule μ p1 p2 p3) = f_X11_rule_36 μ p1 p2 p3 t0_36 → of_X11_rule_36 μ p1 p2 p3 t0_36 → ∀ (ls : Array Slot), lv_has ls 4 [(0, .ref mo), (1, .int p1), (2, .int p2), (3, .int p3)] → W p l e R s m args below meth c s.heap [] 0 0 Q (F0 m 36 ls [.int t0_36, .ref mo]) := by
    intro t0_36 hf hok ls hl
    refine mp_thrown C hM dX11_rule_36 (fun H locs hM => ?_)
    refine lv_aload_n hx hb dX11_rule_39 rfl (lv_at hl 0 rfl) ?_
    refine mg_thrown C hM dX11_rule_40 ?_
    refine lv_if_ne (tgt := 67) hx hb dX11_rule_43 (by decide) (fun c_2 => ?_) (fun c_2 => ?_)
    · have hf := hf.trans (if_neg c_2)
      have hok := oif_neg hok c_2
      exact ret _ _ _ _ _ hM dX11_rule_67 hf
    · have hf := hf.trans (if_pos c_2)
      have hok := oif_pos hok c_2
      refine lv_aload_n hx hb dX11_rule_46 rfl (lv_at hl 0 rfl) ?_
      refine mg_areRules C hM dX11_rule_47 ?_
      refine lv_iload_n hx hb dX11_rule_50 rfl (lv_at hl 1 rfl) ?_
      refine lv_iconst (v := 1) hx hb dX11_rule_51 (by decide) ?_
      have ok_3 := And.left hok
      have hok := And.right hok
      refine ms_areRules C hM ok_3 dX11_rule_52 (fun H locs hM => ?_)
      refine lv_aload_n hx hb dX11_rule_53 rfl (lv_at hl 0 rfl) ?_
      refine mg_firstBounds C hM dX11_rule_54 ?_
      refine lv_iload_n hx hb dX11_rule_57 rfl (lv_at hl 1 rfl) ?_
      refine lv_iload_n hx hb dX11_rule_58 rfl (lv_at hl 2 rfl) ?_
      have ok_4 := And.left hok
      have hok := And.right hok
      refine ms_firstBounds C hM ok_4 dX11_rule_59 (fun H locs hM => ?_)
      refine lv_aload_n hx hb dX11_rule_60 rfl (lv_at hl 0 rfl) ?_
      refine mg_secondBounds C hM dX11_rule_61 ?_
      refine lv_iload_n hx hb dX11_rule_64 rfl (lv_at hl 1 rfl) ?_
      refine lv_iload_n hx hb dX11_rule_65 rfl (lv_at hl 3 rfl) ?_
      have ok_5 := And.left hok
      have hok := And.right hok
      refine ms_secondBounds C hM ok_5 dX11_rule_66 (fun H locs hM => ?_)
      exact ret _ _ _ _ _ hM dX11_rule_67 hf
  refine lv_aload_n hx hb dX11_rule_0 rfl (lv_at hl 0 rfl) ?_
  refine lv_iload_n hx hb dX11_rule_1 rfl (lv_at hl 1 rfl) ?_
  refine lv_iconst (v := 0) hx hb dX11_rule_2 (by decide) ?_
  refine lv_bipush (v := 9) hx hb dX11_rule_3 (by decide) ?_
  refine cc_S (av := [.int p1, .int 0, .int 9]) C (k_X11_isIn l D a p1 0 9) cw_X11_158 (okR_of hRf hRl (Nat.le_of_ble_eq_true rfl) (Nat.le_of_ble_eq_true rfl)) rfl rfl hl.1 (Nat.le_of_ble_eq_true rfl) (Nat.zero_le _) (Nat.zero_le _) dX11_rule_5 ?_
  refine lv_if_eq (tgt := 35) hx hb dX11_rule_8 (by decide) (fun c_1 => ?_) (fun c_1 => ?_)
  · have hf := hf.trans (if_pos c_1)
    have hok := oif_pos hok c_1
    refine lv_iconst (v := 1) hx hb dX11_rule_35 (by decide) ?_
    exact J_36 1 hf hok ls (lv_sub hl [0, 1, 2, 3] rfl)
  · have hf := hf.trans (if_neg c_1)
    have hok := oif_neg hok c_1
    refine lv_iload_n hx hb dX11_rule_11 rfl (lv_at hl 2 rfl) ?_
    refine lv_iconst (v := 0) hx hb dX11_rule_12 (by decide) ?_
    refine lv_sipush (v := 1000) hx hb dX11_rule_13 (by decide) ?_
    refine cc_S (av := [.int p2, .int 0, .int 1000]) C (k_X11_isIn l D a p2 0 1000) cw_X11_158 (okR_of hRf hRl (Nat.le_of_ble_eq_true rfl) (Nat.le_of_ble_eq_true rfl)) rfl rfl hl.1 (Nat.le_of_ble_eq_true rfl) (Nat.zero_le _) (Nat.zero_le _) dX11_rule_16 ?_
    refine lv_if_eq (tgt := 35) hx hb dX11_rule_19 (by decide) (fun c_6 => ?_) (fun c_6 => ?_)
    · have hf := hf.trans (if_pos c_6)
      have hok := oif_pos hok c_6
      refine lv_iconst (v := 1) hx hb dX11_rule_35 (by decide) ?_
      exact J_36 1 hf hok ls (lv_sub hl [0, 1, 2, 3] rfl)
    · have hf := hf.trans (if_neg c_6)
      have hok := oif_neg hok c_6
      refine lv_iload_n hx hb dX11_rule_22 rfl (lv_at hl 3 rfl) ?_
      refine lv_iconst (v := 0) hx hb dX11_rule_23 (by decide) ?_
      refine lv_iload_n hx hb dX11_rule_24 rfl (lv_at hl 2 rfl) ?_
      refine cc_S (av := [.int p3, .int 0, .int p2]) C (k_X11_isIn l D a p3 0 p2) cw_X11_158 (okR_of hRf hRl (Nat.le_of_ble_eq_true rfl) (Nat.le_of_ble_eq_true rfl)) rfl rfl hl.1 (Nat.le_of_ble_eq_true rfl) (Nat.zero_le _) (Nat.zero_le _) dX11_rule_25 ?_
      refine lv_if_eq (tgt := 35) hx hb dX11_rule_28 (by decide) (fun c_7 => ?_) (fun c_7 => ?_)
      · have hf := hf.trans (if_pos c_7)
        have hok := oif_pos hok c_7
        refine lv_iconst (v := 1) hx hb dX11_rule_35 (by decide) ?_
        exact J_36 1 hf hok ls (lv_sub hl [0, 1, 2, 3] rfl)
      · have hf := hf.trans (if_neg c_7)
        have hok := oif_neg hok c_7
        refine lv_iconst (v := 0) hx hb dX11_rule_31 (by decide) ?_
        refine lv_goto (tgt := 36) hx hb dX11_rule_32 (by decide) ?_
        exact J_36 0 hf hok ls (lv_sub hl [0, 1, 2, 3] rfl)
def b_X11_classIn_2 (p1 : Int32) (μ : MS) (w3_2 : Int32) : Bool × (Int32) := (if w3_2 < 0 then (false, w3_2) else (if (mi μ 63 (ix w3_2)) = 0 then (true, (w3_2 + (-1))) else (false, w3_2)))
def ob_X11_classIn_2 (p1 : Int32) (μ : MS) (w3_2 : Int32) : Prop := (oif (w3_2 < 0) True (vp_in w3_2 10 ∧ True))
def s_X11_classIn_2 (p1 : Int32) (μ : MS) (v : Int32) : Bool × (Int32) := b_X11_classIn_2 p1 μ v
def os_X11_classIn_2 (p1 : Int32) (μ : MS) (v : Int32) : Prop := ob_X11_classIn_2 p1 μ v
def f_X11_classIn_80 (μ : MS) (p1 : Int32) (p2 : Int32) (t0_80 : Int32) : Int32 := ((t0_80 + (10 * (mi μ 58 (ix p1)))) + (mi μ 59 (ix p1)))
def of_X11_classIn_80 (μ : MS) (p1 : Int32) (p2 : Int32) (t0_80 : Int32) : Prop := (vp_in p1 40 ∧ (vp_in p1 40 ∧ True))
def f_X11_classIn_21 (μ : MS) (p1 : Int32) (p2 : Int32) (v3_21 : Int32) : Int32 := (if v3_21 < 0 then 0 else (if (mi μ 56 (ix p1)) = 0 then 0 else (if (mi μ 57 (ix p1)) < (mi μ 64 (ix v3_21)) then (if (mi μ 57 (ix p1)) < (mi μ 65 (ix v3_21)) then (f_X11_classIn_80 μ p1 p2 300) else (f_X11_classIn_80 μ p1 p2 200)) else (f_X11_classIn_80 μ p1 p2 100))))
def of_X11_classIn_21 (μ : MS) (p1 : Int32) (p2 : Int32) (v3_21 : Int32) : Prop := (oif (v3_21 < 0) True (vp_in p1 40 ∧ (oif ((mi μ 56 (ix p1)) = 0) True (vp_in p1 40 ∧ (vp_in v3_21 10 ∧ (oif ((mi μ 57 (ix p1)) < (mi μ 64 (ix v3_21))) (vp_in p1 40 ∧ (vp_in v3_21 10 ∧ (oif ((mi μ 57 (ix p1)) < (mi μ 65 (ix v3_21))) (of_X11_classIn_80 μ p1 p2 300) (of_X11_classIn_80 μ p1 p2 200)))) (of_X11_classIn_80 μ p1 p2 100)))))))
def f_X11_classIn_2 (μ : MS) (p1 : Int32) (p2 : Int32) (v3_2 : Int32) : Int32 := (f_X11_classIn_21 μ p1 p2 (itr (s_X11_classIn_2 p1 μ) FU v3_2))
def of_X11_classIn_2 (μ : MS) (p1 : Int32) (p2 : Int32) (v3_2 : Int32) : Prop := (ito (s_X11_classIn_2 p1 μ) (os_X11_classIn_2 p1 μ) FU v3_2 ∧ (of_X11_classIn_21 μ p1 p2 (itr (s_X11_classIn_2 p1 μ) FU v3_2)))
def f_X11_classIn (μ : MS) (p1 : Int32) (p2 : Int32) : Int32 := (f_X11_classIn_2 μ p1 p2 p2)
def of_X11_classIn (μ : MS) (p1 : Int32) (p2 : Int32) : Prop := (of_X11_classIn_2 μ p1 p2 p2)
set_option maxHeartbeats 4000000 in
set_option maxRecDepth 100000 in
theorem k_X11_classIn (l : Launch) (D : va_G) (a : Nat → ClassId) (mo : Nat) (μ : MS) (p1 : Int32) (p2 : Int32) (hok : of_X11_classIn μ p1 p2) : K0 l yX11_classIn cX11_classIn 5 ((some .int)) 0 0 [.ref mo, .int p1, .int p2] (BM D a mo μ) (.int (f_X11_classIn μ p1 p2)) := by
  refine go0i (D := D) (a := a) (by decide +kernel) (fun _ h => h.1) (Nat.le_of_ble_eq_true rfl) ?_
  intro p e s m args below meth c ls R Q hRf hRl C hl hB
  obtain ⟨hB, ret⟩ := hB
  have hM : HM D a mo μ s.heap s.heap [] := ⟨hB.2, va_S.rf⟩
  have hl : lv_has ls 5 [(0, .ref mo), (1, .int p1), (2, .int p2)] := hl
  have hx := C.1.1
  have hb := C.1.2.1
  have hts := C.1.2.2.2.2
  have hown := C.1.2.2.2.1
  have hf : (f_X11_classIn μ p1 p2) = (f_X11_classIn μ p1 p2) := rfl
  have J_80 : ∀ (t0_80 : Int32), (f_X11_classIn μ p1 p2) = f_X11_classIn_80 μ p1 p2 t0_80 → of_X11_classIn_80 μ p1 p2 t0_80 → ∀ (ls : Array Slot), lv_has ls 5 [(0, .ref mo), (1, .int p1)] → W p l e R s m args below meth c s.heap [] 0 0 Q (F0 m 80 ls [.int t0_80]) := by
    intro t0_80 hf hok ls hl
    refine lv_istore (lv' := [(4, .int t0_80), (0, .ref mo), (1, .int p1)]) hx hb dX11_classIn_80 hl (by decide) rfl (fun ls hl => ?_)
    refine lv_iload hx hb dX11_classIn_82 (lv_at hl 0 rfl) ?_
    refine lv_bipush (v := 10) hx hb dX11_classIn_84 (by decide) ?_
    refine lv_aload_n hx hb dX11_classIn_86 rfl (lv_at hl 1 rfl) ?_
    refine mg_textures C hM dX11_classIn_87 ?_
    refine lv_iload_n hx hb dX11_classIn_90 rfl (lv_at hl 2 rfl) ?_
    have ok_13 := And.left hok
    have hok := And.right hok
    refine ma_textures C hM ok_13 dX11_classIn_91 ?_
    refine lv_imul hx hb dX11_classIn_92 ?_
    refine lv_iadd hx hb dX11_classIn_93 ?_
    refine lv_aload_n hx hb dX11_classIn_94 rfl (lv_at hl 1 rfl) ?_
    refine mg_shocks C hM dX11_classIn_95 ?_
    refine lv_iload_n hx hb dX11_classIn_98 rfl (lv_at hl 2 rfl) ?_
    have ok_14 := And.left hok
    have hok := And.right hok
    refine ma_shocks C hM ok_14 dX11_classIn_99 ?_
    refine lv_iadd hx hb dX11_classIn_100 ?_
    exact ret _ _ _ dX11_classIn_101 hf
  have J_21 : ∀ (v3_21 : Int32), (f_X11_classIn μ p1 p2) = f_X11_classIn_21 μ p1 p2 v3_21 → of_X11_classIn_21 μ p1 p2 v3_21 → ∀ (ls : Array Slot), lv_has ls 5 [(0, .ref mo), (1, .int p1), (3, .int v3_21)] → W p l e R s m args below meth c s.heap [] 0 0 Q (F0 m 21 ls []) := by
    intro v3_21 hf hok ls hl
    refine lv_iload_n hx hb dX11_classIn_21 rfl (lv_at hl 2 rfl) ?_
    refine lv_if_lt (tgt := 34) hx hb dX11_classIn_22 (by decide) (fun c_4 => ?_) (fun c_4 => ?_)
    · have hf := hf.trans (if_pos c_4)
      have hok := oif_pos hok c_4
      refine lv_iconst (v := 0) hx hb dX11_classIn_34 (by decide) ?_
      exact ret _ _ _ dX11_classIn_35 hf
    · have hf := hf.trans (if_neg c_4)
      have hok := oif_neg hok c_4
      refine lv_aload_n hx hb dX11_classIn_25 rfl (lv_at hl 0 rfl) ?_
      refine mg_areTold C hM dX11_classIn_26 ?_
      refine lv_iload_n hx hb dX11_classIn_29 rfl (lv_at hl 1 rfl) ?_
      have ok_5 := And.left hok
      have hok := And.right hok
      refine ma_areTold C hM ok_5 dX11_classIn_30 ?_
      refine lv_if_ne (tgt := 36) hx hb dX11_classIn_31 (by decide) (fun c_6 => ?_) (fun c_6 => ?_)
      · have hf := hf.trans (if_neg c_6)
        have hok := oif_neg hok c_6
        refine lv_aload_n hx hb dX11_classIn_36 rfl (lv_at hl 0 rfl) ?_
        refine mg_irons C hM dX11_classIn_37 ?_
        refine lv_iload_n hx hb dX11_classIn_40 rfl (lv_at hl 1 rfl) ?_
        have ok_7 := And.left hok
        have hok := And.right hok
        refine ma_irons C hM ok_7 dX11_classIn_41 ?_
        refine lv_aload_n hx hb dX11_classIn_42 rfl (lv_at hl 0 rfl) ?_
        refine mg_firstBounds C hM dX11_classIn_43 ?_
        refine lv_iload_n hx hb dX11_classIn_46 rfl (lv_at hl 2 rfl) ?_
        have ok_8 := And.left hok
        have hok := And.right hok
        refine ma_firstBounds C hM ok_8 dX11_classIn_47 ?_
        refine lv_icmp_lt (tgt := 56) hx hb dX11_classIn_48 (by decide) (fun c_9 => ?_) (fun c_9 => ?_)
        · have hf := hf.trans (if_pos c_9)
          have hok := oif_pos hok c_9
          refine lv_aload_n hx hb dX11_classIn_56 rfl (lv_at hl 0 rfl) ?_
          refine mg_irons C hM dX11_classIn_57 ?_
          refine lv_iload_n hx hb dX11_classIn_60 rfl (lv_at hl 1 rfl) ?_
          have ok_10 := And.left hok
          have hok := And.right hok
          refine ma_irons C hM ok_10 dX11_classIn_61 ?_
          refine lv_aload_n hx hb dX11_classIn_62 rfl (lv_at hl 0 rfl) ?_
          refine mg_secondBounds C hM dX11_classIn_63 ?_
          refine lv_iload_n hx hb dX11_classIn_66 rfl (lv_at hl 2 rfl) ?_
          have ok_11 := And.left hok
          have hok := And.right hok
          refine ma_secondBounds C hM ok_11 dX11_classIn_67 ?_
          refine lv_icmp_lt (tgt := 77) hx hb dX11_classIn_68 (by decide) (fun c_12 => ?_) (fun c_12 => ?_)
          · have hf := hf.trans (if_pos c_12)
            have hok := oif_pos hok c_12
            refine lv_sipush (v := 300) hx hb dX11_classIn_77 (by decide) ?_
            exact J_80 300 hf hok ls (lv_sub hl [0, 1] rfl)
          · have hf := hf.trans (if_neg c_12)
            have hok := oif_neg hok c_12
            refine lv_sipush (v := 200) hx hb dX11_classIn_71 (by decide) ?_
            refine lv_goto (tgt := 80) hx hb dX11_classIn_74 (by decide) ?_
            exact J_80 200 hf hok ls (lv_sub hl [0, 1] rfl)
        · have hf := hf.trans (if_neg c_9)
          have hok := oif_neg hok c_9
          refine lv_bipush (v := 100) hx hb dX11_classIn_51 (by decide) ?_
          refine lv_goto (tgt := 80) hx hb dX11_classIn_53 (by decide) ?_
          exact J_80 100 hf hok ls (lv_sub hl [0, 1] rfl)
      · have hf := hf.trans (if_pos c_6)
        have hok := oif_pos hok c_6
        refine lv_iconst (v := 0) hx hb dX11_classIn_34 (by decide) ?_
        exact ret _ _ _ dX11_classIn_35 hf
  have J_2 : ∀ (v3_2 : Int32), (f_X11_classIn μ p1 p2) = f_X11_classIn_2 μ p1 p2 v3_2 → of_X11_classIn_2 μ p1 p2 v3_2 → ∀ (ls : Array Slot), lv_has ls 5 [(0, .ref mo), (1, .int p1), (3, .int v3_2)] → W p l e R s m args below meth c s.heap [] 0 0 Q (F0 m 2 ls []) := by
    intro v3_2 hf hok ls hl
    refine itr_W (f := (s_X11_classIn_2 p1 μ)) (o := (os_X11_classIn_2 p1 μ)) (fun (v : Int32) => ∀ (ls : Array Slot), lv_has ls 5 [(0, .ref mo), (1, .int p1), (3, .int v)] → W p l e R s m args below meth c s.heap [] 0 0 Q (F0 m 2 ls [])) (fun (v : Int32) => ∀ (ls : Array Slot), lv_has ls 5 [(0, .ref mo), (1, .int p1), (3, .int v)] → W p l e R s m args below meth c s.heap [] 0 0 Q (F0 m 21 ls [])) ?_ FU v3_2 (And.left hok) ?_ ls (lv_sub hl [0, 1, 2] rfl)
    · intro v hov kc ke
      obtain ⟨w3_2, rfl⟩ : ∃ z, z = v := ⟨_, rfl⟩
      have hok : ob_X11_classIn_2 p1 μ w3_2 := hov
      change ∀ v', (b_X11_classIn_2 p1 μ w3_2) = (true, v') → _ at kc
      change ∀ v', (b_X11_classIn_2 p1 μ w3_2) = (false, v') → _ at ke
      have hf : (b_X11_classIn_2 p1 μ w3_2) = (b_X11_classIn_2 p1 μ w3_2) := rfl
      intro ls hl
      refine lv_iload_n hx hb dX11_classIn_2 rfl (lv_at hl 2 rfl) ?_
      refine lv_if_lt (tgt := 21) hx hb dX11_classIn_3 (by decide) (fun c_1 => ?_) (fun c_1 => ?_)
      · have hf := hf.trans (if_pos c_1)
        have hok := oif_pos hok c_1
        exact ke w3_2 hf ls (lv_sub hl [0, 1, 2] rfl)
      · have hf := hf.trans (if_neg c_1)
        have hok := oif_neg hok c_1
        refine lv_aload_n hx hb dX11_classIn_6 rfl (lv_at hl 0 rfl) ?_
        refine mg_areRules C hM dX11_classIn_7 ?_
        refine lv_iload_n hx hb dX11_classIn_10 rfl (lv_at hl 2 rfl) ?_
        have ok_2 := And.left hok
        have hok := And.right hok
        refine ma_areRules C hM ok_2 dX11_classIn_11 ?_
        refine lv_if_ne (tgt := 21) hx hb dX11_classIn_12 (by decide) (fun c_3 => ?_) (fun c_3 => ?_)
        · have hf := hf.trans (if_neg c_3)
          exact ke w3_2 hf ls (lv_sub hl [0, 1, 2] rfl)
        · have hf := hf.trans (if_pos c_3)
          refine lv_iinc (v := (w3_2 + (-1))) (lv' := [(3, .int (w3_2 + (-1))), (0, .ref mo), (1, .int p1)]) hx hb dX11_classIn_15 hl (k := 2) rfl rfl (by decide) rfl (fun ls hl => ?_)
          refine lv_goto (tgt := 2) hx hb dX11_classIn_18 (by decide) ?_
          exact kc (w3_2 + (-1)) hf ls (lv_sub hl [1, 2, 0] rfl)
    · have hok := And.right hok
      intro ls hl
      exact J_21 (itr (s_X11_classIn_2 p1 μ) FU v3_2) hf hok ls (lv_sub hl [0, 1, 2] rfl)
  refine lv_iload_n hx hb dX11_classIn_0 rfl (lv_at hl 2 rfl) ?_
  refine lv_istore_n (lv' := [(3, .int p2), (0, .ref mo), (1, .int p1), (2, .int p2)]) hx hb dX11_classIn_1 rfl hl (by decide) rfl (fun ls hl => ?_)
  exact J_2 p2 hf hok ls (lv_sub hl [1, 2, 0] rfl)
def f_X11_classOf_28 (μ : MS) (p1 : Int32) (p2 : Int32) (t0_28 : Int32) : Int32 × MS := (if t0_28 ≤ 0 then ((f_X11_classIn (mI μ 0 0 t0_28) p1 p2), (mI μ 0 0 t0_28)) else (0, (mI μ 0 0 t0_28)))
def of_X11_classOf_28 (μ : MS) (p1 : Int32) (p2 : Int32) (t0_28 : Int32) : Prop := (oif (t0_28 ≤ 0) (of_X11_classIn (mI μ 0 0 t0_28) p1 p2 ∧ True) True)
def f_X11_classOf (μ : MS) (p1 : Int32) (p2 : Int32) : Int32 × MS := (if (f_X11_isStone μ p1) = 0 then (f_X11_classOf_28 μ p1 p2 1) else (if (f_X11_isIn p2 0 9) = 0 then (f_X11_classOf_28 μ p1 p2 2) else (f_X11_classOf_28 μ p1 p2 0)))
def of_X11_classOf (μ : MS) (p1 : Int32) (p2 : Int32) : Prop := (of_X11_isStone μ p1 ∧ (oif ((f_X11_isStone μ p1) = 0) (of_X11_classOf_28 μ p1 p2 1) (oif ((f_X11_isIn p2 0 9) = 0) (of_X11_classOf_28 μ p1 p2 2) (of_X11_classOf_28 μ p1 p2 0))))
set_option maxHeartbeats 4000000 in
set_option maxRecDepth 100000 in
theorem k_X11_classOf (l : Launch) (D : va_G) (a : Nat → ClassId) (mo : Nat) (μ : MS) (p1 : Int32) (p2 : Int32) (hok : of_X11_classOf μ p1 p2) : KM l D a mo yX11_classOf cX11_classOf 3 ((some .int)) 2 43 [.int p1, .int p2] μ (some (.int (f_X11_classOf μ p1 p2).1)) (f_X11_classOf μ p1 p2).2 := by
  refine goMi (by decide +kernel) (Nat.le_of_ble_eq_true rfl) ?_
  intro p e s m args below meth c ls R Q hRf hRl C hl hB
  obtain ⟨hM, ret⟩ := hB
  have hl : lv_has ls 3 [(0, .ref mo), (1, .int p1), (2, .int p2)] := hl
  have hx := C.1.1
  have hb := C.1.2.1
  have hts := C.1.2.2.2.2
  have hown := C.1.2.2.2.1
  have hf : (f_X11_classOf μ p1 p2) = (f_X11_classOf μ p1 p2) := rfl
  have J_28 : ∀ (t0_28 : Int32), (f_X11_classOf μ p1 p2) = f_X11_classOf_28 μ p1 p2 t0_28 → of_X11_classOf_28 μ p1 p2 t0_28 → ∀ (ls : Array Slot), lv_has ls 3 [(0, .ref mo), (1, .int p1), (2, .int p2)] → W p l e R s m args below meth c s.heap [] 0 0 Q (F0 m 28 ls [.int t0_28, .ref mo]) := by
    intro t0_28 hf hok ls hl
    refine mp_thrown C hM dX11_classOf_28 (fun H locs hM => ?_)
    refine lv_aload_n hx hb dX11_classOf_31 rfl (lv_at hl 0 rfl) ?_
    refine mg_thrown C hM dX11_classOf_32 ?_
    refine lv_if_le (tgt := 42) hx hb dX11_classOf_35 (by decide) (fun c_4 => ?_) (fun c_4 => ?_)
    · have hf := hf.trans (if_pos c_4)
      have hok := oif_pos hok c_4
      refine lv_aload_n hx hb dX11_classOf_42 rfl (lv_at hl 0 rfl) ?_
      refine lv_iload_n hx hb dX11_classOf_43 rfl (lv_at hl 1 rfl) ?_
      refine lv_iload_n hx hb dX11_classOf_44 rfl (lv_at hl 2 rfl) ?_
      have ok_5 := And.left hok
      have hok := And.right hok
      refine cc_R (av := [.int p1, .int p2]) C hM (k_X11_classIn l D a mo (mI μ 0 0 t0_28) p1 p2 ok_5) cw_X11_320 (okR_of hRf hRl (Nat.le_of_ble_eq_true rfl) (Nat.le_of_ble_eq_true rfl)) rfl rfl hl.1 (Nat.le_of_ble_eq_true rfl) (Nat.zero_le _) (Nat.zero_le _) dX11_classOf_45 ?_
      exact ret _ _ _ _ _ _ hM dX11_classOf_48 hf
    · have hf := hf.trans (if_neg c_4)
      have hok := oif_neg hok c_4
      refine lv_iconst (v := 0) hx hb dX11_classOf_38 (by decide) ?_
      refine lv_goto (tgt := 48) hx hb dX11_classOf_39 (by decide) ?_
      exact ret _ _ _ _ _ _ hM dX11_classOf_48 hf
  refine lv_aload_n hx hb dX11_classOf_0 rfl (lv_at hl 0 rfl) ?_
  refine lv_aload_n hx hb dX11_classOf_1 rfl (lv_at hl 0 rfl) ?_
  refine lv_iload_n hx hb dX11_classOf_2 rfl (lv_at hl 1 rfl) ?_
  have ok_1 := And.left hok
  have hok := And.right hok
  refine cc_R (av := [.int p1]) C hM (k_X11_isStone l D a mo μ p1 ok_1) cw_X11_314 (okR_of hRf hRl (Nat.le_of_ble_eq_true rfl) (Nat.le_of_ble_eq_true rfl)) rfl rfl hl.1 (Nat.le_of_ble_eq_true rfl) (Nat.zero_le _) (Nat.zero_le _) dX11_classOf_3 ?_
  refine lv_if_ne (tgt := 13) hx hb dX11_classOf_6 (by decide) (fun c_2 => ?_) (fun c_2 => ?_)
  · have hf := hf.trans (if_neg c_2)
    have hok := oif_neg hok c_2
    refine lv_iload_n hx hb dX11_classOf_13 rfl (lv_at hl 2 rfl) ?_
    refine lv_iconst (v := 0) hx hb dX11_classOf_14 (by decide) ?_
    refine lv_bipush (v := 9) hx hb dX11_classOf_15 (by decide) ?_
    refine cc_S (av := [.int p2, .int 0, .int 9]) C (k_X11_isIn l D a p2 0 9) cw_X11_158 (okR_of hRf hRl (Nat.le_of_ble_eq_true rfl) (Nat.le_of_ble_eq_true rfl)) rfl rfl hl.1 (Nat.le_of_ble_eq_true rfl) (Nat.zero_le _) (Nat.zero_le _) dX11_classOf_17 ?_
    refine lv_if_ne (tgt := 27) hx hb dX11_classOf_20 (by decide) (fun c_3 => ?_) (fun c_3 => ?_)
    · have hf := hf.trans (if_neg c_3)
      have hok := oif_neg hok c_3
      refine lv_iconst (v := 0) hx hb dX11_classOf_27 (by decide) ?_
      exact J_28 0 hf hok ls (lv_sub hl [0, 1, 2] rfl)
    · have hf := hf.trans (if_pos c_3)
      have hok := oif_pos hok c_3
      refine lv_iconst (v := 2) hx hb dX11_classOf_23 (by decide) ?_
      refine lv_goto (tgt := 28) hx hb dX11_classOf_24 (by decide) ?_
      exact J_28 2 hf hok ls (lv_sub hl [0, 1, 2] rfl)
  · have hf := hf.trans (if_pos c_2)
    have hok := oif_pos hok c_2
    refine lv_iconst (v := 1) hx hb dX11_classOf_9 (by decide) ?_
    refine lv_goto (tgt := 28) hx hb dX11_classOf_10 (by decide) ?_
    exact J_28 1 hf hok ls (lv_sub hl [0, 1, 2] rfl)
def f_X11_pair_169 (μ : MS) (p1 : Int32) (p2 : Int32) (p3 : Int32) (v8_169 : Int32) (t0_169 : Int32) (μ_169 : MS) : Int32 × MS := (if v8_169 = t0_169 then (1, μ_169) else (if v8_169 = (-1) then (1, μ_169) else (if t0_169 = (-1) then (1, μ_169) else (0, μ_169))))
def f_X11_pair_162 (μ : MS) (p1 : Int32) (p2 : Int32) (p3 : Int32) (t0_162 : Int32) (μ_162 : MS) : Int32 × MS := (f_X11_pair_169 μ p1 p2 p3 t0_162 ((f_X11_fallOf μ_162 p2).1) ((f_X11_fallOf μ_162 p2).2))
def of_X11_pair_162 (μ : MS) (p1 : Int32) (p2 : Int32) (p3 : Int32) (t0_162 : Int32) (μ_162 : MS) : Prop := (of_X11_fallOf μ_162 p2 ∧ True)
def f_X11_pair_124 (μ : MS) (p1 : Int32) (p2 : Int32) (p3 : Int32) (v5_124 : Int32) (v6_124 : Int32) (t0_124 : Int32) (μ_124 : MS) : Int32 × MS := (if t0_124 = 0 then (0, μ_124) else (if (f_X11_isIn v5_124 (-10) 10) = 0 then (0, μ_124) else (if (f_X11_isIn v6_124 (-10) 10) = 0 then (0, μ_124) else (f_X11_pair_162 μ p1 p2 p3 ((f_X11_fallOf μ_124 p1).1) ((f_X11_fallOf μ_124 p1).2)))))
def of_X11_pair_124 (μ : MS) (p1 : Int32) (p2 : Int32) (p3 : Int32) (v5_124 : Int32) (v6_124 : Int32) (t0_124 : Int32) (μ_124 : MS) : Prop := (oif (t0_124 = 0) True (oif ((f_X11_isIn v5_124 (-10) 10) = 0) True (oif ((f_X11_isIn v6_124 (-10) 10) = 0) True (of_X11_fallOf μ_124 p1 ∧ (of_X11_pair_162 μ p1 p2 p3 ((f_X11_fallOf μ_124 p1).1) ((f_X11_fallOf μ_124 p1).2))))))
def f_X11_pair_53 (μ : MS) (p1 : Int32) (p2 : Int32) (p3 : Int32) (t0_53 : Int32) : Int32 × MS := (if t0_53 ≤ 0 then (if (f_X11_classIn (mI μ 0 0 t0_53) p1 p3) = 0 then (f_X11_pair_124 μ p1 p2 p3 ((mi μ 47 (ix p1)) - (mi μ 47 (ix p2))) ((mi μ 48 (ix p1)) - (mi μ 48 (ix p2))) 0 (mI μ 0 0 t0_53)) else (if (f_X11_classIn (mI μ 0 0 t0_53) p1 p3) = (f_X11_classIn (mI μ 0 0 t0_53) p2 p3) then (f_X11_pair_124 μ p1 p2 p3 ((mi μ 47 (ix p1)) - (mi μ 47 (ix p2))) ((mi μ 48 (ix p1)) - (mi μ 48 (ix p2))) 1 (mI μ 0 0 t0_53)) else (f_X11_pair_124 μ p1 p2 p3 ((mi μ 47 (ix p1)) - (mi μ 47 (ix p2))) ((mi μ 48 (ix p1)) - (mi μ 48 (ix p2))) 0 (mI μ 0 0 t0_53)))) else (0, (mI μ 0 0 t0_53)))
def of_X11_pair_53 (μ : MS) (p1 : Int32) (p2 : Int32) (p3 : Int32) (t0_53 : Int32) : Prop := (oif (t0_53 ≤ 0) (vp_in p1 40 ∧ (vp_in p2 40 ∧ (vp_in p1 40 ∧ (vp_in p2 40 ∧ (of_X11_classIn (mI μ 0 0 t0_53) p1 p3 ∧ (oif ((f_X11_classIn (mI μ 0 0 t0_53) p1 p3) = 0) (of_X11_pair_124 μ p1 p2 p3 ((mi μ 47 (ix p1)) - (mi μ 47 (ix p2))) ((mi μ 48 (ix p1)) - (mi μ 48 (ix p2))) 0 (mI μ 0 0 t0_53)) (of_X11_classIn (mI μ 0 0 t0_53) p1 p3 ∧ (of_X11_classIn (mI μ 0 0 t0_53) p2 p3 ∧ (oif ((f_X11_classIn (mI μ 0 0 t0_53) p1 p3) = (f_X11_classIn (mI μ 0 0 t0_53) p2 p3)) (of_X11_pair_124 μ p1 p2 p3 ((mi μ 47 (ix p1)) - (mi μ 47 (ix p2))) ((mi μ 48 (ix p1)) - (mi μ 48 (ix p2))) 1 (mI μ 0 0 t0_53)) (of_X11_pair_124 μ p1 p2 p3 ((mi μ 47 (ix p1)) - (mi μ 47 (ix p2))) ((mi μ 48 (ix p1)) - (mi μ 48 (ix p2))) 0 (mI μ 0 0 t0_53))))))))))) True)
def f_X11_pair_21 (μ : MS) (p1 : Int32) (p2 : Int32) (p3 : Int32) (t0_21 : Int32) : Int32 × MS := (if t0_21 = 0 then (f_X11_pair_53 μ p1 p2 p3 1) else (if p1 = p2 then (f_X11_pair_53 μ p1 p2 p3 2) else (if (f_X11_isIn p3 0 9) = 0 then (f_X11_pair_53 μ p1 p2 p3 2) else (f_X11_pair_53 μ p1 p2 p3 0))))
def of_X11_pair_21 (μ : MS) (p1 : Int32) (p2 : Int32) (p3 : Int32) (t0_21 : Int32) : Prop := (oif (t0_21 = 0) (of_X11_pair_53 μ p1 p2 p3 1) (oif (p1 = p2) (of_X11_pair_53 μ p1 p2 p3 2) (oif ((f_X11_isIn p3 0 9) = 0) (of_X11_pair_53 μ p1 p2 p3 2) (of_X11_pair_53 μ p1 p2 p3 0))))
def f_X11_pair (μ : MS) (p1 : Int32) (p2 : Int32) (p3 : Int32) : Int32 × MS := (if (f_X11_isStone μ p1) = 0 then (f_X11_pair_21 μ p1 p2 p3 0) else (if (f_X11_isStone μ p2) = 0 then (f_X11_pair_21 μ p1 p2 p3 0) else (f_X11_pair_21 μ p1 p2 p3 1)))
def of_X11_pair (μ : MS) (p1 : Int32) (p2 : Int32) (p3 : Int32) : Prop := (of_X11_isStone μ p1 ∧ (oif ((f_X11_isStone μ p1) = 0) (of_X11_pair_21 μ p1 p2 p3 0) (of_X11_isStone μ p2 ∧ (oif ((f_X11_isStone μ p2) = 0) (of_X11_pair_21 μ p1 p2 p3 0) (of_X11_pair_21 μ p1 p2 p3 1)))))
set_option maxHeartbeats 4000000 in
set_option maxRecDepth 100000 in
theorem k_X11_pair (l : Launch) (D : va_G) (a : Nat → ClassId) (mo : Nat) (μ : MS) (p1 : Int32) (p2 : Int32) (p3 : Int32) (hok : of_X11_pair μ p1 p2 p3) : KM l D a mo yX11_pair cX11_pair 10 ((some .boolean)) 8 212 [.int p1, .int p2, .int p3] μ (some (.int (f_X11_pair μ p1 p2 p3).1)) (f_X11_pair μ p1 p2 p3).2 := by
  refine goMz (by decide +kernel) (Nat.le_of_ble_eq_true rfl) ?_
  intro p e s m args below meth c ls R Q hRf hRl C hl hB
  obtain ⟨hM, ret⟩ := hB
  have hl : lv_has ls 10 [(0, .ref mo), (1, .int p1), (2, .int p2), (3, .int p3)] := hl
  have hx := C.1.1
  have hb := C.1.2.1
  have hts := C.1.2.2.2.2
  have hown := C.1.2.2.2.1
  have hf : (f_X11_pair μ p1 p2 p3) = (f_X11_pair μ p1 p2 p3) := rfl
  have J_169 : ∀ (v8_169 : Int32) (t0_169 : Int32) (μ_169 : MS), (f_X11_pair μ p1 p2 p3) = f_X11_pair_169 μ p1 p2 p3 v8_169 t0_169 μ_169 → ∀ (H : Heap) (locs : List Loc) (ls : Array Slot), HM D a mo μ_169 s.heap H locs → lv_has ls 10 [(8, .int v8_169)] → W p l e R s m args below meth c H locs 0 0 Q (F0 m 169 ls [.int t0_169]) := by
    intro v8_169 t0_169 μ_169 hf H locs ls hM hl
    refine lv_istore (lv' := [(9, .int t0_169), (8, .int v8_169)]) hx hb dX11_pair_169 hl (by decide) rfl (fun ls hl => ?_)
    refine lv_iload hx hb dX11_pair_171 (lv_at hl 1 rfl) ?_
    refine lv_iload hx hb dX11_pair_173 (lv_at hl 0 rfl) ?_
    refine lv_icmp_eq (tgt := 190) hx hb dX11_pair_175 (by decide) (fun c_17 => ?_) (fun c_17 => ?_)
    · have hf := hf.trans (if_pos c_17)
      refine lv_iconst (v := 1) hx hb dX11_pair_190 (by decide) ?_
      refine lv_goto (tgt := 195) hx hb dX11_pair_191 (by decide) ?_
      exact ret _ _ _ _ _ _ hM dX11_pair_195 (by unfold zb; decide) hf
    · have hf := hf.trans (if_neg c_17)
      refine lv_iload hx hb dX11_pair_178 (lv_at hl 1 rfl) ?_
      refine lv_iconst (v := (-1)) hx hb dX11_pair_180 (by decide) ?_
      refine lv_icmp_eq (tgt := 190) hx hb dX11_pair_181 (by decide) (fun c_18 => ?_) (fun c_18 => ?_)
      · have hf := hf.trans (if_pos c_18)
        refine lv_iconst (v := 1) hx hb dX11_pair_190 (by decide) ?_
        refine lv_goto (tgt := 195) hx hb dX11_pair_191 (by decide) ?_
        exact ret _ _ _ _ _ _ hM dX11_pair_195 (by unfold zb; decide) hf
      · have hf := hf.trans (if_neg c_18)
        refine lv_iload hx hb dX11_pair_184 (lv_at hl 0 rfl) ?_
        refine lv_iconst (v := (-1)) hx hb dX11_pair_186 (by decide) ?_
        refine lv_icmp_ne (tgt := 194) hx hb dX11_pair_187 (by decide) (fun c_19 => ?_) (fun c_19 => ?_)
        · have hf := hf.trans (if_neg c_19)
          refine lv_iconst (v := 0) hx hb dX11_pair_194 (by decide) ?_
          exact ret _ _ _ _ _ _ hM dX11_pair_195 (by unfold zb; decide) hf
        · have hf := hf.trans (if_pos c_19)
          refine lv_iconst (v := 1) hx hb dX11_pair_190 (by decide) ?_
          refine lv_goto (tgt := 195) hx hb dX11_pair_191 (by decide) ?_
          exact ret _ _ _ _ _ _ hM dX11_pair_195 (by unfold zb; decide) hf
  have J_162 : ∀ (t0_162 : Int32) (μ_162 : MS), (f_X11_pair μ p1 p2 p3) = f_X11_pair_162 μ p1 p2 p3 t0_162 μ_162 → of_X11_pair_162 μ p1 p2 p3 t0_162 μ_162 → ∀ (H : Heap) (locs : List Loc) (ls : Array Slot), HM D a mo μ_162 s.heap H locs → lv_has ls 10 [(0, .ref mo), (2, .int p2)] → W p l e R s m args below meth c H locs 0 0 Q (F0 m 162 ls [.int t0_162]) := by
    intro t0_162 μ_162 hf hok H locs ls hM hl
    refine lv_istore (lv' := [(8, .int t0_162), (0, .ref mo), (2, .int p2)]) hx hb dX11_pair_162 hl (by decide) rfl (fun ls hl => ?_)
    refine lv_aload_n hx hb dX11_pair_164 rfl (lv_at hl 1 rfl) ?_
    refine lv_iload_n hx hb dX11_pair_165 rfl (lv_at hl 2 rfl) ?_
    have ok_16 := And.left hok
    have hok := And.right hok
    refine cc_M (av := [.int p2]) C hM (k_X11_fallOf l D a mo μ_162 p2 ok_16) cw_X11_317 (okR_of hRf hRl (Nat.le_of_ble_eq_true rfl) (Nat.le_of_ble_eq_true rfl)) rfl rfl hl.1 (Nat.le_of_ble_eq_true rfl) (Nat.zero_le _) (Nat.zero_le _) dX11_pair_166 (fun H locs hM => ?_)
    exact J_169 t0_162 ((f_X11_fallOf μ_162 p2).1) ((f_X11_fallOf μ_162 p2).2) hf _ _ ls hM (lv_sub hl [0] rfl)
  have J_124 : ∀ (v5_124 : Int32) (v6_124 : Int32) (t0_124 : Int32) (μ_124 : MS), (f_X11_pair μ p1 p2 p3) = f_X11_pair_124 μ p1 p2 p3 v5_124 v6_124 t0_124 μ_124 → of_X11_pair_124 μ p1 p2 p3 v5_124 v6_124 t0_124 μ_124 → ∀ (H : Heap) (locs : List Loc) (ls : Array Slot), HM D a mo μ_124 s.heap H locs → lv_has ls 10 [(0, .ref mo), (1, .int p1), (2, .int p2), (5, .int v5_124), (6, .int v6_124)] → W p l e R s m args below meth c H locs 0 0 Q (F0 m 124 ls [.int t0_124]) := by
    intro v5_124 v6_124 t0_124 μ_124 hf hok H locs ls hM hl
    refine lv_istore (lv' := [(7, .int t0_124), (0, .ref mo), (1, .int p1), (2, .int p2), (5, .int v5_124), (6, .int v6_124)]) hx hb dX11_pair_124 hl (by decide) rfl (fun ls hl => ?_)
    refine lv_iload hx hb dX11_pair_126 (lv_at hl 0 rfl) ?_
    refine lv_if_eq (tgt := 155) hx hb dX11_pair_128 (by decide) (fun c_12 => ?_) (fun c_12 => ?_)
    · have hf := hf.trans (if_pos c_12)
      have hok := oif_pos hok c_12
      refine lv_iconst (v := 0) hx hb dX11_pair_155 (by decide) ?_
      exact ret _ _ _ _ _ _ hM dX11_pair_156 (by unfold zb; decide) hf
    · have hf := hf.trans (if_neg c_12)
      have hok := oif_neg hok c_12
      refine lv_iload hx hb dX11_pair_131 (lv_at hl 4 rfl) ?_
      refine lv_bipush (v := (-10)) hx hb dX11_pair_133 (by decide) ?_
      refine lv_bipush (v := 10) hx hb dX11_pair_135 (by decide) ?_
      refine cc_S (av := [.int v5_124, .int (-10), .int 10]) C (k_X11_isIn l D a v5_124 (-10) 10) cw_X11_158 (okR_of hRf hRl (Nat.le_of_ble_eq_true rfl) (Nat.le_of_ble_eq_true rfl)) rfl rfl hl.1 (Nat.le_of_ble_eq_true rfl) (Nat.zero_le _) (Nat.zero_le _) dX11_pair_137 ?_
      refine lv_if_eq (tgt := 155) hx hb dX11_pair_140 (by decide) (fun c_13 => ?_) (fun c_13 => ?_)
      · have hf := hf.trans (if_pos c_13)
        have hok := oif_pos hok c_13
        refine lv_iconst (v := 0) hx hb dX11_pair_155 (by decide) ?_
        exact ret _ _ _ _ _ _ hM dX11_pair_156 (by unfold zb; decide) hf
      · have hf := hf.trans (if_neg c_13)
        have hok := oif_neg hok c_13
        refine lv_iload hx hb dX11_pair_143 (lv_at hl 5 rfl) ?_
        refine lv_bipush (v := (-10)) hx hb dX11_pair_145 (by decide) ?_
        refine lv_bipush (v := 10) hx hb dX11_pair_147 (by decide) ?_
        refine cc_S (av := [.int v6_124, .int (-10), .int 10]) C (k_X11_isIn l D a v6_124 (-10) 10) cw_X11_158 (okR_of hRf hRl (Nat.le_of_ble_eq_true rfl) (Nat.le_of_ble_eq_true rfl)) rfl rfl hl.1 (Nat.le_of_ble_eq_true rfl) (Nat.zero_le _) (Nat.zero_le _) dX11_pair_149 ?_
        refine lv_if_ne (tgt := 157) hx hb dX11_pair_152 (by decide) (fun c_14 => ?_) (fun c_14 => ?_)
        · have hf := hf.trans (if_neg c_14)
          have hok := oif_neg hok c_14
          refine lv_aload_n hx hb dX11_pair_157 rfl (lv_at hl 1 rfl) ?_
          refine lv_iload_n hx hb dX11_pair_158 rfl (lv_at hl 2 rfl) ?_
          have ok_15 := And.left hok
          have hok := And.right hok
          refine cc_M (av := [.int p1]) C hM (k_X11_fallOf l D a mo μ_124 p1 ok_15) cw_X11_317 (okR_of hRf hRl (Nat.le_of_ble_eq_true rfl) (Nat.le_of_ble_eq_true rfl)) rfl rfl hl.1 (Nat.le_of_ble_eq_true rfl) (Nat.zero_le _) (Nat.zero_le _) dX11_pair_159 (fun H locs hM => ?_)
          exact J_162 ((f_X11_fallOf μ_124 p1).1) ((f_X11_fallOf μ_124 p1).2) hf hok _ _ ls hM (lv_sub hl [1, 3] rfl)
        · have hf := hf.trans (if_pos c_14)
          have hok := oif_pos hok c_14
          refine lv_iconst (v := 0) hx hb dX11_pair_155 (by decide) ?_
          exact ret _ _ _ _ _ _ hM dX11_pair_156 (by unfold zb; decide) hf
  have J_53 : ∀ (t0_53 : Int32), (f_X11_pair μ p1 p2 p3) = f_X11_pair_53 μ p1 p2 p3 t0_53 → of_X11_pair_53 μ p1 p2 p3 t0_53 → ∀ (ls : Array Slot), lv_has ls 10 [(0, .ref mo), (1, .int p1), (2, .int p2), (3, .int p3)] → W p l e R s m args below meth c s.heap [] 0 0 Q (F0 m 53 ls [.int t0_53, .ref mo]) := by
    intro t0_53 hf hok ls hl
    refine mp_thrown C hM dX11_pair_53 (fun H locs hM => ?_)
    refine lv_aload_n hx hb dX11_pair_56 rfl (lv_at hl 0 rfl) ?_
    refine mg_thrown C hM dX11_pair_57 ?_
    refine lv_if_le (tgt := 65) hx hb dX11_pair_60 (by decide) (fun c_5 => ?_) (fun c_5 => ?_)
    · have hf := hf.trans (if_pos c_5)
      have hok := oif_pos hok c_5
      refine lv_aload_n hx hb dX11_pair_65 rfl (lv_at hl 0 rfl) ?_
      refine mg_stoneX C hM dX11_pair_66 ?_
      refine lv_iload_n hx hb dX11_pair_69 rfl (lv_at hl 1 rfl) ?_
      have ok_6 := And.left hok
      have hok := And.right hok
      refine ma_stoneX C hM ok_6 dX11_pair_70 ?_
      refine lv_aload_n hx hb dX11_pair_71 rfl (lv_at hl 0 rfl) ?_
      refine mg_stoneX C hM dX11_pair_72 ?_
      refine lv_iload_n hx hb dX11_pair_75 rfl (lv_at hl 2 rfl) ?_
      have ok_7 := And.left hok
      have hok := And.right hok
      refine ma_stoneX C hM ok_7 dX11_pair_76 ?_
      refine lv_isub hx hb dX11_pair_77 ?_
      refine lv_istore (lv' := [(5, .int ((mi μ 47 (ix p1)) - (mi μ 47 (ix p2)))), (0, .ref mo), (1, .int p1), (2, .int p2), (3, .int p3)]) hx hb dX11_pair_78 hl (by decide) rfl (fun ls hl => ?_)
      refine lv_aload_n hx hb dX11_pair_80 rfl (lv_at hl 1 rfl) ?_
      refine mg_stoneY C hM dX11_pair_81 ?_
      refine lv_iload_n hx hb dX11_pair_84 rfl (lv_at hl 2 rfl) ?_
      have ok_8 := And.left hok
      have hok := And.right hok
      refine ma_stoneY C hM ok_8 dX11_pair_85 ?_
      refine lv_aload_n hx hb dX11_pair_86 rfl (lv_at hl 1 rfl) ?_
      refine mg_stoneY C hM dX11_pair_87 ?_
      refine lv_iload_n hx hb dX11_pair_90 rfl (lv_at hl 3 rfl) ?_
      have ok_9 := And.left hok
      have hok := And.right hok
      refine ma_stoneY C hM ok_9 dX11_pair_91 ?_
      refine lv_isub hx hb dX11_pair_92 ?_
      refine lv_istore (lv' := [(6, .int ((mi μ 48 (ix p1)) - (mi μ 48 (ix p2)))), (5, .int ((mi μ 47 (ix p1)) - (mi μ 47 (ix p2)))), (0, .ref mo), (1, .int p1), (2, .int p2), (3, .int p3)]) hx hb dX11_pair_93 hl (by decide) rfl (fun ls hl => ?_)
      refine lv_aload_n hx hb dX11_pair_95 rfl (lv_at hl 2 rfl) ?_
      refine lv_iload_n hx hb dX11_pair_96 rfl (lv_at hl 3 rfl) ?_
      refine lv_iload_n hx hb dX11_pair_97 rfl (lv_at hl 5 rfl) ?_
      have ok_10 := And.left hok
      have hok := And.right hok
      refine cc_R (av := [.int p1, .int p3]) C hM (k_X11_classIn l D a mo (mI μ 0 0 t0_53) p1 p3 ok_10) cw_X11_320 (okR_of hRf hRl (Nat.le_of_ble_eq_true rfl) (Nat.le_of_ble_eq_true rfl)) rfl rfl hl.1 (Nat.le_of_ble_eq_true rfl) (Nat.zero_le _) (Nat.zero_le _) dX11_pair_98 ?_
      refine lv_if_eq (tgt := 123) hx hb dX11_pair_101 (by decide) (fun c_11 => ?_) (fun c_11 => ?_)
      · have hf := hf.trans (if_pos c_11)
        have hok := oif_pos hok c_11
        refine lv_iconst (v := 0) hx hb dX11_pair_123 (by decide) ?_
        exact J_124 ((mi μ 47 (ix p1)) - (mi μ 47 (ix p2))) ((mi μ 48 (ix p1)) - (mi μ 48 (ix p2))) 0 (mI μ 0 0 t0_53) hf hok _ _ ls hM (lv_sub hl [2, 3, 4, 1, 0] rfl)
      · have hf := hf.trans (if_neg c_11)
        have hok := oif_neg hok c_11
        refine lv_aload_n hx hb dX11_pair_104 rfl (lv_at hl 2 rfl) ?_
        refine lv_iload_n hx hb dX11_pair_105 rfl (lv_at hl 3 rfl) ?_
        refine lv_iload_n hx hb dX11_pair_106 rfl (lv_at hl 5 rfl) ?_
        have ok_20 := And.left hok
        have hok := And.right hok
        refine cc_R (av := [.int p1, .int p3]) C hM (k_X11_classIn l D a mo (mI μ 0 0 t0_53) p1 p3 ok_20) cw_X11_320 (okR_of hRf hRl (Nat.le_of_ble_eq_true rfl) (Nat.le_of_ble_eq_true rfl)) rfl rfl hl.1 (Nat.le_of_ble_eq_true rfl) (Nat.zero_le _) (Nat.zero_le _) dX11_pair_107 ?_
        refine lv_aload_n hx hb dX11_pair_110 rfl (lv_at hl 2 rfl) ?_
        refine lv_iload_n hx hb dX11_pair_111 rfl (lv_at hl 4 rfl) ?_
        refine lv_iload_n hx hb dX11_pair_112 rfl (lv_at hl 5 rfl) ?_
        have ok_21 := And.left hok
        have hok := And.right hok
        refine cc_R (av := [.int p2, .int p3]) C hM (k_X11_classIn l D a mo (mI μ 0 0 t0_53) p2 p3 ok_21) cw_X11_320 (okR_of hRf hRl (Nat.le_of_ble_eq_true rfl) (Nat.le_of_ble_eq_true rfl)) rfl rfl hl.1 (Nat.le_of_ble_eq_true rfl) (Nat.zero_le _) (Nat.zero_le _) dX11_pair_113 ?_
        refine lv_icmp_ne (tgt := 123) hx hb dX11_pair_116 (by decide) (fun c_22 => ?_) (fun c_22 => ?_)
        · have hf := hf.trans (if_neg c_22)
          have hok := oif_neg hok c_22
          refine lv_iconst (v := 0) hx hb dX11_pair_123 (by decide) ?_
          exact J_124 ((mi μ 47 (ix p1)) - (mi μ 47 (ix p2))) ((mi μ 48 (ix p1)) - (mi μ 48 (ix p2))) 0 (mI μ 0 0 t0_53) hf hok _ _ ls hM (lv_sub hl [2, 3, 4, 1, 0] rfl)
        · have hf := hf.trans (if_pos c_22)
          have hok := oif_pos hok c_22
          refine lv_iconst (v := 1) hx hb dX11_pair_119 (by decide) ?_
          refine lv_goto (tgt := 124) hx hb dX11_pair_120 (by decide) ?_
          exact J_124 ((mi μ 47 (ix p1)) - (mi μ 47 (ix p2))) ((mi μ 48 (ix p1)) - (mi μ 48 (ix p2))) 1 (mI μ 0 0 t0_53) hf hok _ _ ls hM (lv_sub hl [2, 3, 4, 1, 0] rfl)
    · have hf := hf.trans (if_neg c_5)
      have hok := oif_neg hok c_5
      refine lv_iconst (v := 0) hx hb dX11_pair_63 (by decide) ?_
      exact ret _ _ _ _ _ _ hM dX11_pair_64 (by unfold zb; decide) hf
  have J_21 : ∀ (t0_21 : Int32), (f_X11_pair μ p1 p2 p3) = f_X11_pair_21 μ p1 p2 p3 t0_21 → of_X11_pair_21 μ p1 p2 p3 t0_21 → ∀ (ls : Array Slot), lv_has ls 10 [(0, .ref mo), (1, .int p1), (2, .int p2), (3, .int p3)] → W p l e R s m args below meth c s.heap [] 0 0 Q (F0 m 21 ls [.int t0_21]) := by
    intro t0_21 hf hok ls hl
    refine lv_istore (lv' := [(4, .int t0_21), (0, .ref mo), (1, .int p1), (2, .int p2), (3, .int p3)]) hx hb dX11_pair_21 hl (by decide) rfl (fun ls hl => ?_)
    refine lv_aload_n hx hb dX11_pair_23 rfl (lv_at hl 1 rfl) ?_
    refine lv_iload hx hb dX11_pair_24 (lv_at hl 0 rfl) ?_
    refine lv_if_ne (tgt := 33) hx hb dX11_pair_26 (by decide) (fun c_3 => ?_) (fun c_3 => ?_)
    · have hf := hf.trans (if_neg c_3)
      have hok := oif_neg hok c_3
      refine lv_iload_n hx hb dX11_pair_33 rfl (lv_at hl 2 rfl) ?_
      refine lv_iload_n hx hb dX11_pair_34 rfl (lv_at hl 3 rfl) ?_
      refine lv_icmp_eq (tgt := 48) hx hb dX11_pair_35 (by decide) (fun c_4 => ?_) (fun c_4 => ?_)
      · have hf := hf.trans (if_pos c_4)
        have hok := oif_pos hok c_4
        refine lv_iconst (v := 2) hx hb dX11_pair_48 (by decide) ?_
        refine lv_goto (tgt := 53) hx hb dX11_pair_49 (by decide) ?_
        exact J_53 2 hf hok ls (lv_sub hl [1, 2, 3, 4] rfl)
      · have hf := hf.trans (if_neg c_4)
        have hok := oif_neg hok c_4
        refine lv_iload_n hx hb dX11_pair_38 rfl (lv_at hl 4 rfl) ?_
        refine lv_iconst (v := 0) hx hb dX11_pair_39 (by decide) ?_
        refine lv_bipush (v := 9) hx hb dX11_pair_40 (by decide) ?_
        refine cc_S (av := [.int p3, .int 0, .int 9]) C (k_X11_isIn l D a p3 0 9) cw_X11_158 (okR_of hRf hRl (Nat.le_of_ble_eq_true rfl) (Nat.le_of_ble_eq_true rfl)) rfl rfl hl.1 (Nat.le_of_ble_eq_true rfl) (Nat.zero_le _) (Nat.zero_le _) dX11_pair_42 ?_
        refine lv_if_ne (tgt := 52) hx hb dX11_pair_45 (by decide) (fun c_23 => ?_) (fun c_23 => ?_)
        · have hf := hf.trans (if_neg c_23)
          have hok := oif_neg hok c_23
          refine lv_iconst (v := 0) hx hb dX11_pair_52 (by decide) ?_
          exact J_53 0 hf hok ls (lv_sub hl [1, 2, 3, 4] rfl)
        · have hf := hf.trans (if_pos c_23)
          have hok := oif_pos hok c_23
          refine lv_iconst (v := 2) hx hb dX11_pair_48 (by decide) ?_
          refine lv_goto (tgt := 53) hx hb dX11_pair_49 (by decide) ?_
          exact J_53 2 hf hok ls (lv_sub hl [1, 2, 3, 4] rfl)
    · have hf := hf.trans (if_pos c_3)
      have hok := oif_pos hok c_3
      refine lv_iconst (v := 1) hx hb dX11_pair_29 (by decide) ?_
      refine lv_goto (tgt := 53) hx hb dX11_pair_30 (by decide) ?_
      exact J_53 1 hf hok ls (lv_sub hl [1, 2, 3, 4] rfl)
  refine lv_aload_n hx hb dX11_pair_0 rfl (lv_at hl 0 rfl) ?_
  refine lv_iload_n hx hb dX11_pair_1 rfl (lv_at hl 1 rfl) ?_
  have ok_1 := And.left hok
  have hok := And.right hok
  refine cc_R (av := [.int p1]) C hM (k_X11_isStone l D a mo μ p1 ok_1) cw_X11_314 (okR_of hRf hRl (Nat.le_of_ble_eq_true rfl) (Nat.le_of_ble_eq_true rfl)) rfl rfl hl.1 (Nat.le_of_ble_eq_true rfl) (Nat.zero_le _) (Nat.zero_le _) dX11_pair_2 ?_
  refine lv_if_eq (tgt := 20) hx hb dX11_pair_5 (by decide) (fun c_2 => ?_) (fun c_2 => ?_)
  · have hf := hf.trans (if_pos c_2)
    have hok := oif_pos hok c_2
    refine lv_iconst (v := 0) hx hb dX11_pair_20 (by decide) ?_
    exact J_21 0 hf hok ls (lv_sub hl [0, 1, 2, 3] rfl)
  · have hf := hf.trans (if_neg c_2)
    have hok := oif_neg hok c_2
    refine lv_aload_n hx hb dX11_pair_8 rfl (lv_at hl 0 rfl) ?_
    refine lv_iload_n hx hb dX11_pair_9 rfl (lv_at hl 2 rfl) ?_
    have ok_24 := And.left hok
    have hok := And.right hok
    refine cc_R (av := [.int p2]) C hM (k_X11_isStone l D a mo μ p2 ok_24) cw_X11_314 (okR_of hRf hRl (Nat.le_of_ble_eq_true rfl) (Nat.le_of_ble_eq_true rfl)) rfl rfl hl.1 (Nat.le_of_ble_eq_true rfl) (Nat.zero_le _) (Nat.zero_le _) dX11_pair_10 ?_
    refine lv_if_eq (tgt := 20) hx hb dX11_pair_13 (by decide) (fun c_25 => ?_) (fun c_25 => ?_)
    · have hf := hf.trans (if_pos c_25)
      have hok := oif_pos hok c_25
      refine lv_iconst (v := 0) hx hb dX11_pair_20 (by decide) ?_
      exact J_21 0 hf hok ls (lv_sub hl [0, 1, 2, 3] rfl)
    · have hf := hf.trans (if_neg c_25)
      have hok := oif_neg hok c_25
      refine lv_iconst (v := 1) hx hb dX11_pair_16 (by decide) ?_
      refine lv_goto (tgt := 21) hx hb dX11_pair_17 (by decide) ?_
      exact J_21 1 hf hok ls (lv_sub hl [0, 1, 2, 3] rfl)
def f_X11_cut_183 (μ : MS) (p1 : Int32) (p2 : Int32) (p3 : Int32) (μ_183 : MS) : Int32 × MS := ((f_X11_adds μ_183 (mi μ_183 47 (ix p1)) (mi μ_183 48 (ix p1)) (mi μ_183 49 (ix p1)) p2 (mi μ_183 51 (ix p1)) p1).1, (f_X11_adds μ_183 (mi μ_183 47 (ix p1)) (mi μ_183 48 (ix p1)) (mi μ_183 49 (ix p1)) p2 (mi μ_183 51 (ix p1)) p1).2)
def of_X11_cut_183 (μ : MS) (p1 : Int32) (p2 : Int32) (p3 : Int32) (μ_183 : MS) : Prop := (vp_in p1 40 ∧ (vp_in p1 40 ∧ (vp_in p1 40 ∧ (vp_in p1 40 ∧ (of_X11_adds μ_183 (mi μ_183 47 (ix p1)) (mi μ_183 48 (ix p1)) (mi μ_183 49 (ix p1)) p2 (mi μ_183 51 (ix p1)) p1 ∧ True)))))
def f_X11_cut_138 (μ : MS) (p1 : Int32) (p2 : Int32) (p3 : Int32) (μ_138 : MS) : Int32 × MS := (f_X11_cut_183 μ p1 p2 p3 (mI (mI (mI μ_138 57 (ix (mi μ_138 46 0)) (mi μ_138 57 (ix p1))) 58 (ix (mi μ_138 46 0)) (mi μ_138 58 (ix p1))) 59 (ix (mi μ_138 46 0)) (mi μ_138 59 (ix p1))))
def of_X11_cut_138 (μ : MS) (p1 : Int32) (p2 : Int32) (p3 : Int32) (μ_138 : MS) : Prop := (vp_in p1 40 ∧ (vp_in (mi μ_138 46 0) 40 ∧ (vp_in p1 40 ∧ (vp_in (mi μ_138 46 0) 40 ∧ (vp_in p1 40 ∧ (vp_in (mi μ_138 46 0) 40 ∧ (of_X11_cut_183 μ p1 p2 p3 (mI (mI (mI μ_138 57 (ix (mi μ_138 46 0)) (mi μ_138 57 (ix p1))) 58 (ix (mi μ_138 46 0)) (mi μ_138 58 (ix p1))) 59 (ix (mi μ_138 46 0)) (mi μ_138 59 (ix p1))))))))))
def f_X11_cut_89 (μ : MS) (p1 : Int32) (p2 : Int32) (p3 : Int32) (t0_89 : Int32) : Int32 × MS := (if t0_89 ≤ 0 then (f_X11_cut_138 μ p1 p2 p3 (mI (mI (mI (mI μ 0 0 t0_89) 50 (ix p1) ((mi μ 50 (ix p1)) - (p2 + p3))) 55 (ix p1) ((mi μ 55 (ix p1)) + p3)) 56 (ix (mi μ 46 0)) (bz (mi μ 56 (ix p1))))) else (0, (mI μ 0 0 t0_89)))
def of_X11_cut_89 (μ : MS) (p1 : Int32) (p2 : Int32) (p3 : Int32) (t0_89 : Int32) : Prop := (oif (t0_89 ≤ 0) (vp_in p1 40 ∧ (vp_in p1 40 ∧ (vp_in p1 40 ∧ (vp_in p1 40 ∧ (vp_in p1 40 ∧ (vp_in (mi μ 46 0) 40 ∧ (of_X11_cut_138 μ p1 p2 p3 (mI (mI (mI (mI μ 0 0 t0_89) 50 (ix p1) ((mi μ 50 (ix p1)) - (p2 + p3))) 55 (ix p1) ((mi μ 55 (ix p1)) + p3)) 56 (ix (mi μ 46 0)) (bz (mi μ 56 (ix p1))))))))))) True)
def f_X11_cut_27 (μ : MS) (p1 : Int32) (p2 : Int32) (p3 : Int32) (t0_27 : Int32) : Int32 × MS := (if (f_X11_isStone μ p1) = 0 then (f_X11_cut_89 μ p1 p2 p3 1) else (if t0_27 = 0 then (f_X11_cut_89 μ p1 p2 p3 2) else (if (mi μ 52 (ix p1)) = 2 then (f_X11_cut_89 μ p1 p2 p3 3) else (if (((mi μ 50 (ix p1)) - p2) - p3) < 1 then (f_X11_cut_89 μ p1 p2 p3 3) else (if (mi μ 46 0) = 40 then (f_X11_cut_89 μ p1 p2 p3 3) else (f_X11_cut_89 μ p1 p2 p3 0))))))
def of_X11_cut_27 (μ : MS) (p1 : Int32) (p2 : Int32) (p3 : Int32) (t0_27 : Int32) : Prop := (of_X11_isStone μ p1 ∧ (oif ((f_X11_isStone μ p1) = 0) (of_X11_cut_89 μ p1 p2 p3 1) (oif (t0_27 = 0) (of_X11_cut_89 μ p1 p2 p3 2) (vp_in p1 40 ∧ (oif ((mi μ 52 (ix p1)) = 2) (of_X11_cut_89 μ p1 p2 p3 3) (vp_in p1 40 ∧ (oif ((((mi μ 50 (ix p1)) - p2) - p3) < 1) (of_X11_cut_89 μ p1 p2 p3 3) (oif ((mi μ 46 0) = 40) (of_X11_cut_89 μ p1 p2 p3 3) (of_X11_cut_89 μ p1 p2 p3 0)))))))))
def f_X11_cut (μ : MS) (p1 : Int32) (p2 : Int32) (p3 : Int32) : Int32 × MS := (if (f_X11_isIn p2 1 1000000) = 0 then (f_X11_cut_27 μ p1 p2 p3 0) else (if (f_X11_isIn p3 0 1000) = 0 then (f_X11_cut_27 μ p1 p2 p3 0) else (f_X11_cut_27 μ p1 p2 p3 1)))
def of_X11_cut (μ : MS) (p1 : Int32) (p2 : Int32) (p3 : Int32) : Prop := (oif ((f_X11_isIn p2 1 1000000) = 0) (of_X11_cut_27 μ p1 p2 p3 0) (oif ((f_X11_isIn p3 0 1000) = 0) (of_X11_cut_27 μ p1 p2 p3 0) (of_X11_cut_27 μ p1 p2 p3 1)))
set_option maxHeartbeats 4000000 in
set_option maxRecDepth 100000 in
theorem k_X11_cut (l : Launch) (D : va_G) (a : Nat → ClassId) (mo : Nat) (μ : MS) (p1 : Int32) (p2 : Int32) (p3 : Int32) (hok : of_X11_cut μ p1 p2 p3) : KM l D a mo yX11_cut cX11_cut 5 ((some .int)) 2 43 [.int p1, .int p2, .int p3] μ (some (.int (f_X11_cut μ p1 p2 p3).1)) (f_X11_cut μ p1 p2 p3).2 := by
  refine goMi (by decide +kernel) (Nat.le_of_ble_eq_true rfl) ?_
  intro p e s m args below meth c ls R Q hRf hRl C hl hB
  obtain ⟨hM, ret⟩ := hB
  have hl : lv_has ls 5 [(0, .ref mo), (1, .int p1), (2, .int p2), (3, .int p3)] := hl
  have hx := C.1.1
  have hb := C.1.2.1
  have hts := C.1.2.2.2.2
  have hown := C.1.2.2.2.1
  have hf : (f_X11_cut μ p1 p2 p3) = (f_X11_cut μ p1 p2 p3) := rfl
  have J_183 : ∀ (μ_183 : MS), (f_X11_cut μ p1 p2 p3) = f_X11_cut_183 μ p1 p2 p3 μ_183 → of_X11_cut_183 μ p1 p2 p3 μ_183 → ∀ (H : Heap) (locs : List Loc) (ls : Array Slot), HM D a mo μ_183 s.heap H locs → lv_has ls 5 [(0, .ref mo), (1, .int p1), (2, .int p2)] → W p l e R s m args below meth c H locs 0 0 Q (F0 m 183 ls []) := by
    intro μ_183 hf hok H locs ls hM hl
    refine lv_aload_n hx hb dX11_cut_183 rfl (lv_at hl 0 rfl) ?_
    refine lv_aload_n hx hb dX11_cut_184 rfl (lv_at hl 0 rfl) ?_
    refine mg_stoneX C hM dX11_cut_185 ?_
    refine lv_iload_n hx hb dX11_cut_188 rfl (lv_at hl 1 rfl) ?_
    have ok_20 := And.left hok
    have hok := And.right hok
    refine ma_stoneX C hM ok_20 dX11_cut_189 ?_
    refine lv_aload_n hx hb dX11_cut_190 rfl (lv_at hl 0 rfl) ?_
    refine mg_stoneY C hM dX11_cut_191 ?_
    refine lv_iload_n hx hb dX11_cut_194 rfl (lv_at hl 1 rfl) ?_
    have ok_21 := And.left hok
    have hok := And.right hok
    refine ma_stoneY C hM ok_21 dX11_cut_195 ?_
    refine lv_aload_n hx hb dX11_cut_196 rfl (lv_at hl 0 rfl) ?_
    refine mg_stoneNights C hM dX11_cut_197 ?_
    refine lv_iload_n hx hb dX11_cut_200 rfl (lv_at hl 1 rfl) ?_
    have ok_22 := And.left hok
    have hok := And.right hok
    refine ma_stoneNights C hM ok_22 dX11_cut_201 ?_
    refine lv_iload_n hx hb dX11_cut_202 rfl (lv_at hl 2 rfl) ?_
    refine lv_aload_n hx hb dX11_cut_203 rfl (lv_at hl 0 rfl) ?_
    refine mg_owners C hM dX11_cut_204 ?_
    refine lv_iload_n hx hb dX11_cut_207 rfl (lv_at hl 1 rfl) ?_
    have ok_23 := And.left hok
    have hok := And.right hok
    refine ma_owners C hM ok_23 dX11_cut_208 ?_
    refine lv_iload_n hx hb dX11_cut_209 rfl (lv_at hl 1 rfl) ?_
    have ok_24 := And.left hok
    have hok := And.right hok
    refine cc_M (av := [.int (mi μ_183 47 (ix p1)), .int (mi μ_183 48 (ix p1)), .int (mi μ_183 49 (ix p1)), .int p2, .int (mi μ_183 51 (ix p1)), .int p1]) C hM (k_X11_adds l D a mo μ_183 (mi μ_183 47 (ix p1)) (mi μ_183 48 (ix p1)) (mi μ_183 49 (ix p1)) p2 (mi μ_183 51 (ix p1)) p1 ok_24) cw_X11_310 (okR_of hRf hRl (Nat.le_of_ble_eq_true rfl) (Nat.le_of_ble_eq_true rfl)) rfl rfl hl.1 (Nat.le_of_ble_eq_true rfl) (Nat.zero_le _) (Nat.zero_le _) dX11_cut_210 (fun H locs hM => ?_)
    exact ret _ _ _ _ _ _ hM dX11_cut_213 hf
  have J_138 : ∀ (μ_138 : MS), (f_X11_cut μ p1 p2 p3) = f_X11_cut_138 μ p1 p2 p3 μ_138 → of_X11_cut_138 μ p1 p2 p3 μ_138 → ∀ (H : Heap) (locs : List Loc) (ls : Array Slot), HM D a mo μ_138 s.heap H locs → lv_has ls 5 [(0, .ref mo), (1, .int p1), (2, .int p2)] → W p l e R s m args below meth c H locs 0 0 Q (F0 m 138 ls []) := by
    intro μ_138 hf hok H locs ls hM hl
    refine lv_aload_n hx hb dX11_cut_138 rfl (lv_at hl 0 rfl) ?_
    refine mg_irons C hM dX11_cut_139 ?_
    refine lv_aload_n hx hb dX11_cut_142 rfl (lv_at hl 0 rfl) ?_
    refine mg_stones C hM dX11_cut_143 ?_
    refine lv_aload_n hx hb dX11_cut_146 rfl (lv_at hl 0 rfl) ?_
    refine mg_irons C hM dX11_cut_147 ?_
    refine lv_iload_n hx hb dX11_cut_150 rfl (lv_at hl 1 rfl) ?_
    have ok_14 := And.left hok
    have hok := And.right hok
    refine ma_irons C hM ok_14 dX11_cut_151 ?_
    have ok_15 := And.left hok
    have hok := And.right hok
    refine ms_irons C hM ok_15 dX11_cut_152 (fun H locs hM => ?_)
    refine lv_aload_n hx hb dX11_cut_153 rfl (lv_at hl 0 rfl) ?_
    refine mg_textures C hM dX11_cut_154 ?_
    refine lv_aload_n hx hb dX11_cut_157 rfl (lv_at hl 0 rfl) ?_
    refine mg_stones C hM dX11_cut_158 ?_
    refine lv_aload_n hx hb dX11_cut_161 rfl (lv_at hl 0 rfl) ?_
    refine mg_textures C hM dX11_cut_162 ?_
    refine lv_iload_n hx hb dX11_cut_165 rfl (lv_at hl 1 rfl) ?_
    have ok_16 := And.left hok
    have hok := And.right hok
    refine ma_textures C hM ok_16 dX11_cut_166 ?_
    have ok_17 := And.left hok
    have hok := And.right hok
    refine ms_textures C hM ok_17 dX11_cut_167 (fun H locs hM => ?_)
    refine lv_aload_n hx hb dX11_cut_168 rfl (lv_at hl 0 rfl) ?_
    refine mg_shocks C hM dX11_cut_169 ?_
    refine lv_aload_n hx hb dX11_cut_172 rfl (lv_at hl 0 rfl) ?_
    refine mg_stones C hM dX11_cut_173 ?_
    refine lv_aload_n hx hb dX11_cut_176 rfl (lv_at hl 0 rfl) ?_
    refine mg_shocks C hM dX11_cut_177 ?_
    refine lv_iload_n hx hb dX11_cut_180 rfl (lv_at hl 1 rfl) ?_
    have ok_18 := And.left hok
    have hok := And.right hok
    refine ma_shocks C hM ok_18 dX11_cut_181 ?_
    have ok_19 := And.left hok
    have hok := And.right hok
    refine ms_shocks C hM ok_19 dX11_cut_182 (fun H locs hM => ?_)
    exact J_183 (mI (mI (mI μ_138 57 (ix (mi μ_138 46 0)) (mi μ_138 57 (ix p1))) 58 (ix (mi μ_138 46 0)) (mi μ_138 58 (ix p1))) 59 (ix (mi μ_138 46 0)) (mi μ_138 59 (ix p1))) hf hok _ _ ls hM (lv_sub hl [0, 1, 2] rfl)
  have J_89 : ∀ (t0_89 : Int32), (f_X11_cut μ p1 p2 p3) = f_X11_cut_89 μ p1 p2 p3 t0_89 → of_X11_cut_89 μ p1 p2 p3 t0_89 → ∀ (ls : Array Slot), lv_has ls 5 [(0, .ref mo), (1, .int p1), (2, .int p2), (3, .int p3)] → W p l e R s m args below meth c s.heap [] 0 0 Q (F0 m 89 ls [.int t0_89, .ref mo]) := by
    intro t0_89 hf hok ls hl
    refine mp_thrown C hM dX11_cut_89 (fun H locs hM => ?_)
    refine lv_aload_n hx hb dX11_cut_92 rfl (lv_at hl 0 rfl) ?_
    refine mg_thrown C hM dX11_cut_93 ?_
    refine lv_if_le (tgt := 101) hx hb dX11_cut_96 (by decide) (fun c_7 => ?_) (fun c_7 => ?_)
    · have hf := hf.trans (if_pos c_7)
      have hok := oif_pos hok c_7
      refine lv_aload_n hx hb dX11_cut_101 rfl (lv_at hl 0 rfl) ?_
      refine mg_weights C hM dX11_cut_102 ?_
      refine lv_iload_n hx hb dX11_cut_105 rfl (lv_at hl 1 rfl) ?_
      refine lv_dup2_11 hx hb dX11_cut_106 rfl rfl ?_
      have ok_8 := And.left hok
      have hok := And.right hok
      refine ma_weights C hM ok_8 dX11_cut_107 ?_
      refine lv_iload_n hx hb dX11_cut_108 rfl (lv_at hl 2 rfl) ?_
      refine lv_iload_n hx hb dX11_cut_109 rfl (lv_at hl 3 rfl) ?_
      refine lv_iadd hx hb dX11_cut_110 ?_
      refine lv_isub hx hb dX11_cut_111 ?_
      have ok_9 := And.left hok
      have hok := And.right hok
      refine ms_weights C hM ok_9 dX11_cut_112 (fun H locs hM => ?_)
      refine lv_aload_n hx hb dX11_cut_113 rfl (lv_at hl 0 rfl) ?_
      refine mg_losses C hM dX11_cut_114 ?_
      refine lv_iload_n hx hb dX11_cut_117 rfl (lv_at hl 1 rfl) ?_
      refine lv_dup2_11 hx hb dX11_cut_118 rfl rfl ?_
      have ok_10 := And.left hok
      have hok := And.right hok
      refine ma_losses C hM ok_10 dX11_cut_119 ?_
      refine lv_iload_n hx hb dX11_cut_120 rfl (lv_at hl 3 rfl) ?_
      refine lv_iadd hx hb dX11_cut_121 ?_
      have ok_11 := And.left hok
      have hok := And.right hok
      refine ms_losses C hM ok_11 dX11_cut_122 (fun H locs hM => ?_)
      refine lv_aload_n hx hb dX11_cut_123 rfl (lv_at hl 0 rfl) ?_
      refine mg_areTold C hM dX11_cut_124 ?_
      refine lv_aload_n hx hb dX11_cut_127 rfl (lv_at hl 0 rfl) ?_
      refine mg_stones C hM dX11_cut_128 ?_
      refine lv_aload_n hx hb dX11_cut_131 rfl (lv_at hl 0 rfl) ?_
      refine mg_areTold C hM dX11_cut_132 ?_
      refine lv_iload_n hx hb dX11_cut_135 rfl (lv_at hl 1 rfl) ?_
      have ok_12 := And.left hok
      have hok := And.right hok
      refine ma_areTold C hM ok_12 dX11_cut_136 ?_
      have ok_13 := And.left hok
      have hok := And.right hok
      refine ms_areTold C hM ok_13 dX11_cut_137 (fun H locs hM => ?_)
      exact J_138 (mI (mI (mI (mI μ 0 0 t0_89) 50 (ix p1) ((mi μ 50 (ix p1)) - (p2 + p3))) 55 (ix p1) ((mi μ 55 (ix p1)) + p3)) 56 (ix (mi μ 46 0)) (bz (mi μ 56 (ix p1)))) hf hok _ _ ls hM (lv_sub hl [0, 1, 2] rfl)
    · have hf := hf.trans (if_neg c_7)
      have hok := oif_neg hok c_7
      refine lv_iconst (v := 0) hx hb dX11_cut_99 (by decide) ?_
      exact ret _ _ _ _ _ _ hM dX11_cut_100 hf
  have J_27 : ∀ (t0_27 : Int32), (f_X11_cut μ p1 p2 p3) = f_X11_cut_27 μ p1 p2 p3 t0_27 → of_X11_cut_27 μ p1 p2 p3 t0_27 → ∀ (ls : Array Slot), lv_has ls 5 [(0, .ref mo), (1, .int p1), (2, .int p2), (3, .int p3)] → W p l e R s m args below meth c s.heap [] 0 0 Q (F0 m 27 ls [.int t0_27]) := by
    intro t0_27 hf hok ls hl
    refine lv_istore (lv' := [(4, .int t0_27), (0, .ref mo), (1, .int p1), (2, .int p2), (3, .int p3)]) hx hb dX11_cut_27 hl (by decide) rfl (fun ls hl => ?_)
    refine lv_aload_n hx hb dX11_cut_29 rfl (lv_at hl 1 rfl) ?_
    refine lv_aload_n hx hb dX11_cut_30 rfl (lv_at hl 1 rfl) ?_
    refine lv_iload_n hx hb dX11_cut_31 rfl (lv_at hl 2 rfl) ?_
    have ok_2 := And.left hok
    have hok := And.right hok
    refine cc_R (av := [.int p1]) C hM (k_X11_isStone l D a mo μ p1 ok_2) cw_X11_314 (okR_of hRf hRl (Nat.le_of_ble_eq_true rfl) (Nat.le_of_ble_eq_true rfl)) rfl rfl hl.1 (Nat.le_of_ble_eq_true rfl) (Nat.zero_le _) (Nat.zero_le _) dX11_cut_32 ?_
    refine lv_if_ne (tgt := 42) hx hb dX11_cut_35 (by decide) (fun c_3 => ?_) (fun c_3 => ?_)
    · have hf := hf.trans (if_neg c_3)
      have hok := oif_neg hok c_3
      refine lv_iload hx hb dX11_cut_42 (lv_at hl 0 rfl) ?_
      refine lv_if_ne (tgt := 51) hx hb dX11_cut_44 (by decide) (fun c_4 => ?_) (fun c_4 => ?_)
      · have hf := hf.trans (if_neg c_4)
        have hok := oif_neg hok c_4
        refine lv_aload_n hx hb dX11_cut_51 rfl (lv_at hl 1 rfl) ?_
        refine mg_where C hM dX11_cut_52 ?_
        refine lv_iload_n hx hb dX11_cut_55 rfl (lv_at hl 2 rfl) ?_
        have ok_5 := And.left hok
        have hok := And.right hok
        refine ma_where C hM ok_5 dX11_cut_56 ?_
        refine lv_iconst (v := 2) hx hb dX11_cut_57 (by decide) ?_
        refine lv_icmp_eq (tgt := 84) hx hb dX11_cut_58 (by decide) (fun c_6 => ?_) (fun c_6 => ?_)
        · have hf := hf.trans (if_pos c_6)
          have hok := oif_pos hok c_6
          refine lv_iconst (v := 3) hx hb dX11_cut_84 (by decide) ?_
          refine lv_goto (tgt := 89) hx hb dX11_cut_85 (by decide) ?_
          exact J_89 3 hf hok ls (lv_sub hl [1, 2, 3, 4] rfl)
        · have hf := hf.trans (if_neg c_6)
          have hok := oif_neg hok c_6
          refine lv_aload_n hx hb dX11_cut_61 rfl (lv_at hl 1 rfl) ?_
          refine mg_weights C hM dX11_cut_62 ?_
          refine lv_iload_n hx hb dX11_cut_65 rfl (lv_at hl 2 rfl) ?_
          have ok_25 := And.left hok
          have hok := And.right hok
          refine ma_weights C hM ok_25 dX11_cut_66 ?_
          refine lv_iload_n hx hb dX11_cut_67 rfl (lv_at hl 3 rfl) ?_
          refine lv_isub hx hb dX11_cut_68 ?_
          refine lv_iload_n hx hb dX11_cut_69 rfl (lv_at hl 4 rfl) ?_
          refine lv_isub hx hb dX11_cut_70 ?_
          refine lv_iconst (v := 1) hx hb dX11_cut_71 (by decide) ?_
          refine lv_icmp_lt (tgt := 84) hx hb dX11_cut_72 (by decide) (fun c_26 => ?_) (fun c_26 => ?_)
          · have hf := hf.trans (if_pos c_26)
            have hok := oif_pos hok c_26
            refine lv_iconst (v := 3) hx hb dX11_cut_84 (by decide) ?_
            refine lv_goto (tgt := 89) hx hb dX11_cut_85 (by decide) ?_
            exact J_89 3 hf hok ls (lv_sub hl [1, 2, 3, 4] rfl)
          · have hf := hf.trans (if_neg c_26)
            have hok := oif_neg hok c_26
            refine lv_aload_n hx hb dX11_cut_75 rfl (lv_at hl 1 rfl) ?_
            refine mg_stones C hM dX11_cut_76 ?_
            refine lv_bipush (v := 40) hx hb dX11_cut_79 (by decide) ?_
            refine lv_icmp_ne (tgt := 88) hx hb dX11_cut_81 (by decide) (fun c_27 => ?_) (fun c_27 => ?_)
            · have hf := hf.trans (if_neg c_27)
              have hok := oif_neg hok c_27
              refine lv_iconst (v := 0) hx hb dX11_cut_88 (by decide) ?_
              exact J_89 0 hf hok ls (lv_sub hl [1, 2, 3, 4] rfl)
            · have hf := hf.trans (if_pos c_27)
              have hok := oif_pos hok c_27
              refine lv_iconst (v := 3) hx hb dX11_cut_84 (by decide) ?_
              refine lv_goto (tgt := 89) hx hb dX11_cut_85 (by decide) ?_
              exact J_89 3 hf hok ls (lv_sub hl [1, 2, 3, 4] rfl)
      · have hf := hf.trans (if_pos c_4)
        have hok := oif_pos hok c_4
        refine lv_iconst (v := 2) hx hb dX11_cut_47 (by decide) ?_
        refine lv_goto (tgt := 89) hx hb dX11_cut_48 (by decide) ?_
        exact J_89 2 hf hok ls (lv_sub hl [1, 2, 3, 4] rfl)
    · have hf := hf.trans (if_pos c_3)
      have hok := oif_pos hok c_3
      refine lv_iconst (v := 1) hx hb dX11_cut_38 (by decide) ?_
      refine lv_goto (tgt := 89) hx hb dX11_cut_39 (by decide) ?_
      exact J_89 1 hf hok ls (lv_sub hl [1, 2, 3, 4] rfl)
  refine lv_iload_n hx hb dX11_cut_0 rfl (lv_at hl 2 rfl) ?_
  refine lv_iconst (v := 1) hx hb dX11_cut_1 (by decide) ?_
  refine lv_ldcw (v := 1000000) hx hb hown (hts _ q_1532) dX11_cut_2 ?_
  refine cc_S (av := [.int p2, .int 1, .int 1000000]) C (k_X11_isIn l D a p2 1 1000000) cw_X11_158 (okR_of hRf hRl (Nat.le_of_ble_eq_true rfl) (Nat.le_of_ble_eq_true rfl)) rfl rfl hl.1 (Nat.le_of_ble_eq_true rfl) (Nat.zero_le _) (Nat.zero_le _) dX11_cut_5 ?_
  refine lv_if_eq (tgt := 26) hx hb dX11_cut_8 (by decide) (fun c_1 => ?_) (fun c_1 => ?_)
  · have hf := hf.trans (if_pos c_1)
    have hok := oif_pos hok c_1
    refine lv_iconst (v := 0) hx hb dX11_cut_26 (by decide) ?_
    exact J_27 0 hf hok ls (lv_sub hl [0, 1, 2, 3] rfl)
  · have hf := hf.trans (if_neg c_1)
    have hok := oif_neg hok c_1
    refine lv_iload_n hx hb dX11_cut_11 rfl (lv_at hl 3 rfl) ?_
    refine lv_iconst (v := 0) hx hb dX11_cut_12 (by decide) ?_
    refine lv_sipush (v := 1000) hx hb dX11_cut_13 (by decide) ?_
    refine cc_S (av := [.int p3, .int 0, .int 1000]) C (k_X11_isIn l D a p3 0 1000) cw_X11_158 (okR_of hRf hRl (Nat.le_of_ble_eq_true rfl) (Nat.le_of_ble_eq_true rfl)) rfl rfl hl.1 (Nat.le_of_ble_eq_true rfl) (Nat.zero_le _) (Nat.zero_le _) dX11_cut_16 ?_
    refine lv_if_eq (tgt := 26) hx hb dX11_cut_19 (by decide) (fun c_28 => ?_) (fun c_28 => ?_)
    · have hf := hf.trans (if_pos c_28)
      have hok := oif_pos hok c_28
      refine lv_iconst (v := 0) hx hb dX11_cut_26 (by decide) ?_
      exact J_27 0 hf hok ls (lv_sub hl [0, 1, 2, 3] rfl)
    · have hf := hf.trans (if_neg c_28)
      have hok := oif_neg hok c_28
      refine lv_iconst (v := 1) hx hb dX11_cut_22 (by decide) ?_
      refine lv_goto (tgt := 27) hx hb dX11_cut_23 (by decide) ?_
      exact J_27 1 hf hok ls (lv_sub hl [0, 1, 2, 3] rfl)
def f_X11_lend_100 (μ : MS) (p1 : Int32) (p2 : Int32) (t0_100 : Int32) (t1_100 : Int32) (μ_100 : MS) : MS := (mI (mI μ_100 52 (ix t1_100) t0_100) 53 (ix p1) p2)
def of_X11_lend_100 (μ : MS) (p1 : Int32) (p2 : Int32) (t0_100 : Int32) (t1_100 : Int32) (μ_100 : MS) : Prop := (vp_in t1_100 40 ∧ (vp_in p1 40 ∧ True))
def f_X11_lend_75 (μ : MS) (p1 : Int32) (p2 : Int32) (t0_75 : Int32) : MS := (if t0_75 = 0 then (if p2 = (-1) then (f_X11_lend_100 μ p1 p2 0 p1 (mI μ 0 0 t0_75)) else (f_X11_lend_100 μ p1 p2 1 p1 (mI μ 0 0 t0_75))) else (mI μ 0 0 t0_75))
def of_X11_lend_75 (μ : MS) (p1 : Int32) (p2 : Int32) (t0_75 : Int32) : Prop := (oif (t0_75 = 0) (oif (p2 = (-1)) (of_X11_lend_100 μ p1 p2 0 p1 (mI μ 0 0 t0_75)) (of_X11_lend_100 μ p1 p2 1 p1 (mI μ 0 0 t0_75))) True)
def f_X11_lend_41 (μ : MS) (p1 : Int32) (p2 : Int32) (v3_41 : Int32) (t0_41 : Int32) : MS := (if v3_41 = 0 then (f_X11_lend_75 μ p1 p2 1) else (if (f_X11_isIn p2 (-1) 3) = 0 then (f_X11_lend_75 μ p1 p2 2) else (if t0_41 = 0 then (f_X11_lend_75 μ p1 p2 3) else (f_X11_lend_75 μ p1 p2 0))))
def of_X11_lend_41 (μ : MS) (p1 : Int32) (p2 : Int32) (v3_41 : Int32) (t0_41 : Int32) : Prop := (oif (v3_41 = 0) (of_X11_lend_75 μ p1 p2 1) (oif ((f_X11_isIn p2 (-1) 3) = 0) (of_X11_lend_75 μ p1 p2 2) (oif (t0_41 = 0) (of_X11_lend_75 μ p1 p2 3) (of_X11_lend_75 μ p1 p2 0))))
def f_X11_lend (μ : MS) (p1 : Int32) (p2 : Int32) : MS := (if (f_X11_isStone μ p1) = 0 then (f_X11_lend_41 μ p1 p2 (f_X11_isStone μ p1) 0) else (if p2 = (-1) then (if (mi μ 52 (ix p1)) = 0 then (f_X11_lend_41 μ p1 p2 (f_X11_isStone μ p1) 0) else (f_X11_lend_41 μ p1 p2 (f_X11_isStone μ p1) 1)) else (if (mi μ 52 (ix p1)) = 0 then (f_X11_lend_41 μ p1 p2 (f_X11_isStone μ p1) 1) else (f_X11_lend_41 μ p1 p2 (f_X11_isStone μ p1) 0))))
def of_X11_lend (μ : MS) (p1 : Int32) (p2 : Int32) : Prop := (of_X11_isStone μ p1 ∧ (oif ((f_X11_isStone μ p1) = 0) (of_X11_lend_41 μ p1 p2 (f_X11_isStone μ p1) 0) (oif (p2 = (-1)) (vp_in p1 40 ∧ (oif ((mi μ 52 (ix p1)) = 0) (of_X11_lend_41 μ p1 p2 (f_X11_isStone μ p1) 0) (of_X11_lend_41 μ p1 p2 (f_X11_isStone μ p1) 1))) (vp_in p1 40 ∧ (oif ((mi μ 52 (ix p1)) = 0) (of_X11_lend_41 μ p1 p2 (f_X11_isStone μ p1) 1) (of_X11_lend_41 μ p1 p2 (f_X11_isStone μ p1) 0))))))
set_option maxHeartbeats 4000000 in
set_option maxRecDepth 100000 in
theorem k_X11_lend (l : Launch) (D : va_G) (a : Nat → ClassId) (mo : Nat) (μ : MS) (p1 : Int32) (p2 : Int32) (hok : of_X11_lend μ p1 p2) : KM l D a mo yX11_lend cX11_lend 5 none 2 43 [.int p1, .int p2] μ none (f_X11_lend μ p1 p2) := by
  refine goMv (by decide +kernel) (Nat.le_of_ble_eq_true rfl) ?_
  intro p e s m args below meth c ls R Q hRf hRl C hl hB
  obtain ⟨hM, ret⟩ := hB
  have hl : lv_has ls 5 [(0, .ref mo), (1, .int p1), (2, .int p2)] := hl
  have hx := C.1.1
  have hb := C.1.2.1
  have hts := C.1.2.2.2.2
  have hown := C.1.2.2.2.1
  have hf : (f_X11_lend μ p1 p2) = (f_X11_lend μ p1 p2) := rfl
  have J_100 : ∀ (t0_100 : Int32) (t1_100 : Int32) (μ_100 : MS), (f_X11_lend μ p1 p2) = f_X11_lend_100 μ p1 p2 t0_100 t1_100 μ_100 → of_X11_lend_100 μ p1 p2 t0_100 t1_100 μ_100 → ∀ (H : Heap) (locs : List Loc) (ls : Array Slot), HM D a mo μ_100 s.heap H locs → lv_has ls 5 [(0, .ref mo), (1, .int p1), (2, .int p2)] → W p l e R s m args below meth c H locs 0 0 Q (F0 m 100 ls [.int t0_100, .int t1_100, .ref (mo + 31)]) := by
    intro t0_100 t1_100 μ_100 hf hok H locs ls hM hl
    have ok_8 := And.left hok
    have hok := And.right hok
    refine ms_where C hM ok_8 dX11_lend_100 (fun H locs hM => ?_)
    refine lv_aload_n hx hb dX11_lend_101 rfl (lv_at hl 0 rfl) ?_
    refine mg_laboratories C hM dX11_lend_102 ?_
    refine lv_iload_n hx hb dX11_lend_105 rfl (lv_at hl 1 rfl) ?_
    refine lv_iload_n hx hb dX11_lend_106 rfl (lv_at hl 2 rfl) ?_
    have ok_9 := And.left hok
    have hok := And.right hok
    refine ms_laboratories C hM ok_9 dX11_lend_107 (fun H locs hM => ?_)
    exact ret _ _ _ _ _ hM dX11_lend_108 hf
  have J_75 : ∀ (t0_75 : Int32), (f_X11_lend μ p1 p2) = f_X11_lend_75 μ p1 p2 t0_75 → of_X11_lend_75 μ p1 p2 t0_75 → ∀ (ls : Array Slot), lv_has ls 5 [(0, .ref mo), (1, .int p1), (2, .int p2)] → W p l e R s m args below meth c s.heap [] 0 0 Q (F0 m 75 ls [.int t0_75, .ref mo]) := by
    intro t0_75 hf hok ls hl
    refine mp_thrown C hM dX11_lend_75 (fun H locs hM => ?_)
    refine lv_aload_n hx hb dX11_lend_78 rfl (lv_at hl 0 rfl) ?_
    refine mg_thrown C hM dX11_lend_79 ?_
    refine lv_if_ne (tgt := 108) hx hb dX11_lend_82 (by decide) (fun c_6 => ?_) (fun c_6 => ?_)
    · have hf := hf.trans (if_neg c_6)
      have hok := oif_neg hok c_6
      exact ret _ _ _ _ _ hM dX11_lend_108 hf
    · have hf := hf.trans (if_pos c_6)
      have hok := oif_pos hok c_6
      refine lv_aload_n hx hb dX11_lend_85 rfl (lv_at hl 0 rfl) ?_
      refine mg_where C hM dX11_lend_86 ?_
      refine lv_iload_n hx hb dX11_lend_89 rfl (lv_at hl 1 rfl) ?_
      refine lv_iload_n hx hb dX11_lend_90 rfl (lv_at hl 2 rfl) ?_
      refine lv_iconst (v := (-1)) hx hb dX11_lend_91 (by decide) ?_
      refine lv_icmp_ne (tgt := 99) hx hb dX11_lend_92 (by decide) (fun c_7 => ?_) (fun c_7 => ?_)
      · have hf := hf.trans (if_neg c_7)
        have hok := oif_neg hok c_7
        refine lv_iconst (v := 1) hx hb dX11_lend_99 (by decide) ?_
        exact J_100 1 p1 (mI μ 0 0 t0_75) hf hok _ _ ls hM (lv_sub hl [0, 1, 2] rfl)
      · have hf := hf.trans (if_pos c_7)
        have hok := oif_pos hok c_7
        refine lv_iconst (v := 0) hx hb dX11_lend_95 (by decide) ?_
        refine lv_goto (tgt := 100) hx hb dX11_lend_96 (by decide) ?_
        exact J_100 0 p1 (mI μ 0 0 t0_75) hf hok _ _ ls hM (lv_sub hl [0, 1, 2] rfl)
  have J_41 : ∀ (v3_41 : Int32) (t0_41 : Int32), (f_X11_lend μ p1 p2) = f_X11_lend_41 μ p1 p2 v3_41 t0_41 → of_X11_lend_41 μ p1 p2 v3_41 t0_41 → ∀ (ls : Array Slot), lv_has ls 5 [(0, .ref mo), (1, .int p1), (2, .int p2), (3, .int v3_41)] → W p l e R s m args below meth c s.heap [] 0 0 Q (F0 m 41 ls [.int t0_41]) := by
    intro v3_41 t0_41 hf hok ls hl
    refine lv_istore (lv' := [(4, .int t0_41), (0, .ref mo), (1, .int p1), (2, .int p2), (3, .int v3_41)]) hx hb dX11_lend_41 hl (by decide) rfl (fun ls hl => ?_)
    refine lv_aload_n hx hb dX11_lend_43 rfl (lv_at hl 1 rfl) ?_
    refine lv_iload_n hx hb dX11_lend_44 rfl (lv_at hl 4 rfl) ?_
    refine lv_if_ne (tgt := 52) hx hb dX11_lend_45 (by decide) (fun c_3 => ?_) (fun c_3 => ?_)
    · have hf := hf.trans (if_neg c_3)
      have hok := oif_neg hok c_3
      refine lv_iload_n hx hb dX11_lend_52 rfl (lv_at hl 3 rfl) ?_
      refine lv_iconst (v := (-1)) hx hb dX11_lend_53 (by decide) ?_
      refine lv_iconst (v := 3) hx hb dX11_lend_54 (by decide) ?_
      refine cc_S (av := [.int p2, .int (-1), .int 3]) C (k_X11_isIn l D a p2 (-1) 3) cw_X11_158 (okR_of hRf hRl (Nat.le_of_ble_eq_true rfl) (Nat.le_of_ble_eq_true rfl)) rfl rfl hl.1 (Nat.le_of_ble_eq_true rfl) (Nat.zero_le _) (Nat.zero_le _) dX11_lend_55 ?_
      refine lv_if_ne (tgt := 65) hx hb dX11_lend_58 (by decide) (fun c_4 => ?_) (fun c_4 => ?_)
      · have hf := hf.trans (if_neg c_4)
        have hok := oif_neg hok c_4
        refine lv_iload hx hb dX11_lend_65 (lv_at hl 0 rfl) ?_
        refine lv_if_ne (tgt := 74) hx hb dX11_lend_67 (by decide) (fun c_5 => ?_) (fun c_5 => ?_)
        · have hf := hf.trans (if_neg c_5)
          have hok := oif_neg hok c_5
          refine lv_iconst (v := 0) hx hb dX11_lend_74 (by decide) ?_
          exact J_75 0 hf hok ls (lv_sub hl [1, 2, 3] rfl)
        · have hf := hf.trans (if_pos c_5)
          have hok := oif_pos hok c_5
          refine lv_iconst (v := 3) hx hb dX11_lend_70 (by decide) ?_
          refine lv_goto (tgt := 75) hx hb dX11_lend_71 (by decide) ?_
          exact J_75 3 hf hok ls (lv_sub hl [1, 2, 3] rfl)
      · have hf := hf.trans (if_pos c_4)
        have hok := oif_pos hok c_4
        refine lv_iconst (v := 2) hx hb dX11_lend_61 (by decide) ?_
        refine lv_goto (tgt := 75) hx hb dX11_lend_62 (by decide) ?_
        exact J_75 2 hf hok ls (lv_sub hl [1, 2, 3] rfl)
    · have hf := hf.trans (if_pos c_3)
      have hok := oif_pos hok c_3
      refine lv_iconst (v := 1) hx hb dX11_lend_48 (by decide) ?_
      refine lv_goto (tgt := 75) hx hb dX11_lend_49 (by decide) ?_
      exact J_75 1 hf hok ls (lv_sub hl [1, 2, 3] rfl)
  refine lv_aload_n hx hb dX11_lend_0 rfl (lv_at hl 0 rfl) ?_
  refine lv_iload_n hx hb dX11_lend_1 rfl (lv_at hl 1 rfl) ?_
  have ok_1 := And.left hok
  have hok := And.right hok
  refine cc_R (av := [.int p1]) C hM (k_X11_isStone l D a mo μ p1 ok_1) cw_X11_314 (okR_of hRf hRl (Nat.le_of_ble_eq_true rfl) (Nat.le_of_ble_eq_true rfl)) rfl rfl hl.1 (Nat.le_of_ble_eq_true rfl) (Nat.zero_le _) (Nat.zero_le _) dX11_lend_2 ?_
  refine lv_istore_n (lv' := [(3, .int (f_X11_isStone μ p1)), (0, .ref mo), (1, .int p1), (2, .int p2)]) hx hb dX11_lend_5 rfl hl (by decide) rfl (fun ls hl => ?_)
  refine lv_iload_n hx hb dX11_lend_6 rfl (lv_at hl 0 rfl) ?_
  refine lv_if_eq (tgt := 40) hx hb dX11_lend_7 (by decide) (fun c_2 => ?_) (fun c_2 => ?_)
  · have hf := hf.trans (if_pos c_2)
    have hok := oif_pos hok c_2
    refine lv_iconst (v := 0) hx hb dX11_lend_40 (by decide) ?_
    exact J_41 (f_X11_isStone μ p1) 0 hf hok ls (lv_sub hl [1, 2, 3, 0] rfl)
  · have hf := hf.trans (if_neg c_2)
    have hok := oif_neg hok c_2
    refine lv_iload_n hx hb dX11_lend_10 rfl (lv_at hl 3 rfl) ?_
    refine lv_iconst (v := (-1)) hx hb dX11_lend_11 (by decide) ?_
    refine lv_icmp_ne (tgt := 27) hx hb dX11_lend_12 (by decide) (fun c_10 => ?_) (fun c_10 => ?_)
    · have hf := hf.trans (if_neg c_10)
      have hok := oif_neg hok c_10
      refine lv_aload_n hx hb dX11_lend_27 rfl (lv_at hl 1 rfl) ?_
      refine mg_where C hM dX11_lend_28 ?_
      refine lv_iload_n hx hb dX11_lend_31 rfl (lv_at hl 2 rfl) ?_
      have ok_11 := And.left hok
      have hok := And.right hok
      refine ma_where C hM ok_11 dX11_lend_32 ?_
      refine lv_if_ne (tgt := 40) hx hb dX11_lend_33 (by decide) (fun c_12 => ?_) (fun c_12 => ?_)
      · have hf := hf.trans (if_neg c_12)
        have hok := oif_neg hok c_12
        refine lv_iconst (v := 0) hx hb dX11_lend_40 (by decide) ?_
        exact J_41 (f_X11_isStone μ p1) 0 hf hok ls (lv_sub hl [1, 2, 3, 0] rfl)
      · have hf := hf.trans (if_pos c_12)
        have hok := oif_pos hok c_12
        refine lv_iconst (v := 1) hx hb dX11_lend_36 (by decide) ?_
        refine lv_goto (tgt := 41) hx hb dX11_lend_37 (by decide) ?_
        exact J_41 (f_X11_isStone μ p1) 1 hf hok ls (lv_sub hl [1, 2, 3, 0] rfl)
    · have hf := hf.trans (if_pos c_10)
      have hok := oif_pos hok c_10
      refine lv_aload_n hx hb dX11_lend_15 rfl (lv_at hl 1 rfl) ?_
      refine mg_where C hM dX11_lend_16 ?_
      refine lv_iload_n hx hb dX11_lend_19 rfl (lv_at hl 2 rfl) ?_
      have ok_13 := And.left hok
      have hok := And.right hok
      refine ma_where C hM ok_13 dX11_lend_20 ?_
      refine lv_if_eq (tgt := 40) hx hb dX11_lend_21 (by decide) (fun c_14 => ?_) (fun c_14 => ?_)
      · have hf := hf.trans (if_pos c_14)
        have hok := oif_pos hok c_14
        refine lv_iconst (v := 0) hx hb dX11_lend_40 (by decide) ?_
        exact J_41 (f_X11_isStone μ p1) 0 hf hok ls (lv_sub hl [1, 2, 3, 0] rfl)
      · have hf := hf.trans (if_neg c_14)
        have hok := oif_neg hok c_14
        refine lv_goto (tgt := 36) hx hb dX11_lend_24 (by decide) ?_
        refine lv_iconst (v := 1) hx hb dX11_lend_36 (by decide) ?_
        refine lv_goto (tgt := 41) hx hb dX11_lend_37 (by decide) ?_
        exact J_41 (f_X11_isStone μ p1) 1 hf hok ls (lv_sub hl [1, 2, 3, 0] rfl)
def f_X11_steal_28 (μ : MS) (p1 : Int32) (t0_28 : Int32) : MS := (if t0_28 = 0 then (mI (mI (mI μ 0 0 t0_28) 52 (ix p1) 2) 53 (ix p1) (-1)) else (mI μ 0 0 t0_28))
def of_X11_steal_28 (μ : MS) (p1 : Int32) (t0_28 : Int32) : Prop := (oif (t0_28 = 0) (vp_in p1 40 ∧ (vp_in p1 40 ∧ True)) True)
def f_X11_steal (μ : MS) (p1 : Int32) : MS := (if (f_X11_isStone μ p1) = 0 then (f_X11_steal_28 μ p1 1) else (if (mi μ 52 (ix p1)) = 2 then (f_X11_steal_28 μ p1 2) else (f_X11_steal_28 μ p1 0)))
def of_X11_steal (μ : MS) (p1 : Int32) : Prop := (of_X11_isStone μ p1 ∧ (oif ((f_X11_isStone μ p1) = 0) (of_X11_steal_28 μ p1 1) (vp_in p1 40 ∧ (oif ((mi μ 52 (ix p1)) = 2) (of_X11_steal_28 μ p1 2) (of_X11_steal_28 μ p1 0)))))
set_option maxHeartbeats 4000000 in
set_option maxRecDepth 100000 in
theorem k_X11_steal (l : Launch) (D : va_G) (a : Nat → ClassId) (mo : Nat) (μ : MS) (p1 : Int32) (hok : of_X11_steal μ p1) : KM l D a mo yX11_steal cX11_steal 2 none 2 43 [.int p1] μ none (f_X11_steal μ p1) := by
  refine goMv (by decide +kernel) (Nat.le_of_ble_eq_true rfl) ?_
  intro p e s m args below meth c ls R Q hRf hRl C hl hB
  obtain ⟨hM, ret⟩ := hB
  have hl : lv_has ls 2 [(0, .ref mo), (1, .int p1)] := hl
  have hx := C.1.1
  have hb := C.1.2.1
  have hts := C.1.2.2.2.2
  have hown := C.1.2.2.2.1
  have hf : (f_X11_steal μ p1) = (f_X11_steal μ p1) := rfl
  have J_28 : ∀ (t0_28 : Int32), (f_X11_steal μ p1) = f_X11_steal_28 μ p1 t0_28 → of_X11_steal_28 μ p1 t0_28 → ∀ (ls : Array Slot), lv_has ls 2 [(0, .ref mo), (1, .int p1)] → W p l e R s m args below meth c s.heap [] 0 0 Q (F0 m 28 ls [.int t0_28, .ref mo]) := by
    intro t0_28 hf hok ls hl
    refine mp_thrown C hM dX11_steal_28 (fun H locs hM => ?_)
    refine lv_aload_n hx hb dX11_steal_31 rfl (lv_at hl 0 rfl) ?_
    refine mg_thrown C hM dX11_steal_32 ?_
    refine lv_if_ne (tgt := 52) hx hb dX11_steal_35 (by decide) (fun c_5 => ?_) (fun c_5 => ?_)
    · have hf := hf.trans (if_neg c_5)
      have hok := oif_neg hok c_5
      exact ret _ _ _ _ _ hM dX11_steal_52 hf
    · have hf := hf.trans (if_pos c_5)
      have hok := oif_pos hok c_5
      refine lv_aload_n hx hb dX11_steal_38 rfl (lv_at hl 0 rfl) ?_
      refine mg_where C hM dX11_steal_39 ?_
      refine lv_iload_n hx hb dX11_steal_42 rfl (lv_at hl 1 rfl) ?_
      refine lv_iconst (v := 2) hx hb dX11_steal_43 (by decide) ?_
      have ok_6 := And.left hok
      have hok := And.right hok
      refine ms_where C hM ok_6 dX11_steal_44 (fun H locs hM => ?_)
      refine lv_aload_n hx hb dX11_steal_45 rfl (lv_at hl 0 rfl) ?_
      refine mg_laboratories C hM dX11_steal_46 ?_
      refine lv_iload_n hx hb dX11_steal_49 rfl (lv_at hl 1 rfl) ?_
      refine lv_iconst (v := (-1)) hx hb dX11_steal_50 (by decide) ?_
      have ok_7 := And.left hok
      have hok := And.right hok
      refine ms_laboratories C hM ok_7 dX11_steal_51 (fun H locs hM => ?_)
      exact ret _ _ _ _ _ hM dX11_steal_52 hf
  refine lv_aload_n hx hb dX11_steal_0 rfl (lv_at hl 0 rfl) ?_
  refine lv_aload_n hx hb dX11_steal_1 rfl (lv_at hl 0 rfl) ?_
  refine lv_iload_n hx hb dX11_steal_2 rfl (lv_at hl 1 rfl) ?_
  have ok_1 := And.left hok
  have hok := And.right hok
  refine cc_R (av := [.int p1]) C hM (k_X11_isStone l D a mo μ p1 ok_1) cw_X11_314 (okR_of hRf hRl (Nat.le_of_ble_eq_true rfl) (Nat.le_of_ble_eq_true rfl)) rfl rfl hl.1 (Nat.le_of_ble_eq_true rfl) (Nat.zero_le _) (Nat.zero_le _) dX11_steal_3 ?_
  refine lv_if_ne (tgt := 13) hx hb dX11_steal_6 (by decide) (fun c_2 => ?_) (fun c_2 => ?_)
  · have hf := hf.trans (if_neg c_2)
    have hok := oif_neg hok c_2
    refine lv_aload_n hx hb dX11_steal_13 rfl (lv_at hl 0 rfl) ?_
    refine mg_where C hM dX11_steal_14 ?_
    refine lv_iload_n hx hb dX11_steal_17 rfl (lv_at hl 1 rfl) ?_
    have ok_3 := And.left hok
    have hok := And.right hok
    refine ma_where C hM ok_3 dX11_steal_18 ?_
    refine lv_iconst (v := 2) hx hb dX11_steal_19 (by decide) ?_
    refine lv_icmp_ne (tgt := 27) hx hb dX11_steal_20 (by decide) (fun c_4 => ?_) (fun c_4 => ?_)
    · have hf := hf.trans (if_neg c_4)
      have hok := oif_neg hok c_4
      refine lv_iconst (v := 0) hx hb dX11_steal_27 (by decide) ?_
      exact J_28 0 hf hok ls (lv_sub hl [0, 1] rfl)
    · have hf := hf.trans (if_pos c_4)
      have hok := oif_pos hok c_4
      refine lv_iconst (v := 2) hx hb dX11_steal_23 (by decide) ?_
      refine lv_goto (tgt := 28) hx hb dX11_steal_24 (by decide) ?_
      exact J_28 2 hf hok ls (lv_sub hl [0, 1] rfl)
  · have hf := hf.trans (if_pos c_2)
    have hok := oif_pos hok c_2
    refine lv_iconst (v := 1) hx hb dX11_steal_9 (by decide) ?_
    refine lv_goto (tgt := 28) hx hb dX11_steal_10 (by decide) ?_
    exact J_28 1 hf hok ls (lv_sub hl [0, 1] rfl)
def f_X11_law_24 (μ : MS) (p1 : Int32) (p2 : Int32) (t0_24 : Int32) : Int32 × MS := (if t0_24 ≤ 0 then ((mi μ 66 (ix p1)), (mI (mI μ 0 0 t0_24) 66 (ix p1) p2)) else (0, (mI μ 0 0 t0_24)))
def of_X11_law_24 (μ : MS) (p1 : Int32) (p2 : Int32) (t0_24 : Int32) : Prop := (oif (t0_24 ≤ 0) (vp_in p1 4 ∧ (vp_in p1 4 ∧ True)) True)
def f_X11_law (μ : MS) (p1 : Int32) (p2 : Int32) : Int32 × MS := (if (f_X11_isIn p1 0 3) = 0 then (f_X11_law_24 μ p1 p2 1) else (if (f_X11_isIn p2 0 2) = 0 then (f_X11_law_24 μ p1 p2 1) else (f_X11_law_24 μ p1 p2 0)))
def of_X11_law (μ : MS) (p1 : Int32) (p2 : Int32) : Prop := (oif ((f_X11_isIn p1 0 3) = 0) (of_X11_law_24 μ p1 p2 1) (oif ((f_X11_isIn p2 0 2) = 0) (of_X11_law_24 μ p1 p2 1) (of_X11_law_24 μ p1 p2 0)))
set_option maxHeartbeats 4000000 in
set_option maxRecDepth 100000 in
theorem k_X11_law (l : Launch) (D : va_G) (a : Nat → ClassId) (mo : Nat) (μ : MS) (p1 : Int32) (p2 : Int32) (hok : of_X11_law μ p1 p2) : KM l D a mo yX11_law cX11_law 4 ((some .int)) 1 22 [.int p1, .int p2] μ (some (.int (f_X11_law μ p1 p2).1)) (f_X11_law μ p1 p2).2 := by
  refine goMi (by decide +kernel) (Nat.le_of_ble_eq_true rfl) ?_
  intro p e s m args below meth c ls R Q hRf hRl C hl hB
  obtain ⟨hM, ret⟩ := hB
  have hl : lv_has ls 4 [(0, .ref mo), (1, .int p1), (2, .int p2)] := hl
  have hx := C.1.1
  have hb := C.1.2.1
  have hts := C.1.2.2.2.2
  have hown := C.1.2.2.2.1
  have hf : (f_X11_law μ p1 p2) = (f_X11_law μ p1 p2) := rfl
  have J_24 : ∀ (t0_24 : Int32), (f_X11_law μ p1 p2) = f_X11_law_24 μ p1 p2 t0_24 → of_X11_law_24 μ p1 p2 t0_24 → ∀ (ls : Array Slot), lv_has ls 4 [(0, .ref mo), (1, .int p1), (2, .int p2)] → W p l e R s m args below meth c s.heap [] 0 0 Q (F0 m 24 ls [.int t0_24, .ref mo]) := by
    intro t0_24 hf hok ls hl
    refine mp_thrown C hM dX11_law_24 (fun H locs hM => ?_)
    refine lv_aload_n hx hb dX11_law_27 rfl (lv_at hl 0 rfl) ?_
    refine mg_thrown C hM dX11_law_28 ?_
    refine lv_if_le (tgt := 36) hx hb dX11_law_31 (by decide) (fun c_2 => ?_) (fun c_2 => ?_)
    · have hf := hf.trans (if_pos c_2)
      have hok := oif_pos hok c_2
      refine lv_aload_n hx hb dX11_law_36 rfl (lv_at hl 0 rfl) ?_
      refine mg_laws C hM dX11_law_37 ?_
      refine lv_iload_n hx hb dX11_law_40 rfl (lv_at hl 1 rfl) ?_
      have ok_3 := And.left hok
      have hok := And.right hok
      refine ma_laws C hM ok_3 dX11_law_41 ?_
      refine lv_istore_n (lv' := [(3, .int (mi μ 66 (ix p1))), (0, .ref mo), (1, .int p1), (2, .int p2)]) hx hb dX11_law_42 rfl hl (by decide) rfl (fun ls hl => ?_)
      refine lv_aload_n hx hb dX11_law_43 rfl (lv_at hl 1 rfl) ?_
      refine mg_laws C hM dX11_law_44 ?_
      refine lv_iload_n hx hb dX11_law_47 rfl (lv_at hl 2 rfl) ?_
      refine lv_iload_n hx hb dX11_law_48 rfl (lv_at hl 3 rfl) ?_
      have ok_4 := And.left hok
      have hok := And.right hok
      refine ms_laws C hM ok_4 dX11_law_49 (fun H locs hM => ?_)
      refine lv_iload_n hx hb dX11_law_50 rfl (lv_at hl 0 rfl) ?_
      exact ret _ _ _ _ _ _ hM dX11_law_51 hf
    · have hf := hf.trans (if_neg c_2)
      have hok := oif_neg hok c_2
      refine lv_iconst (v := 0) hx hb dX11_law_34 (by decide) ?_
      exact ret _ _ _ _ _ _ hM dX11_law_35 hf
  refine lv_aload_n hx hb dX11_law_0 rfl (lv_at hl 0 rfl) ?_
  refine lv_iload_n hx hb dX11_law_1 rfl (lv_at hl 1 rfl) ?_
  refine lv_iconst (v := 0) hx hb dX11_law_2 (by decide) ?_
  refine lv_iconst (v := 3) hx hb dX11_law_3 (by decide) ?_
  refine cc_S (av := [.int p1, .int 0, .int 3]) C (k_X11_isIn l D a p1 0 3) cw_X11_158 (okR_of hRf hRl (Nat.le_of_ble_eq_true rfl) (Nat.le_of_ble_eq_true rfl)) rfl rfl hl.1 (Nat.le_of_ble_eq_true rfl) (Nat.zero_le _) (Nat.zero_le _) dX11_law_4 ?_
  refine lv_if_eq (tgt := 23) hx hb dX11_law_7 (by decide) (fun c_1 => ?_) (fun c_1 => ?_)
  · have hf := hf.trans (if_pos c_1)
    have hok := oif_pos hok c_1
    refine lv_iconst (v := 1) hx hb dX11_law_23 (by decide) ?_
    exact J_24 1 hf hok ls (lv_sub hl [0, 1, 2] rfl)
  · have hf := hf.trans (if_neg c_1)
    have hok := oif_neg hok c_1
    refine lv_iload_n hx hb dX11_law_10 rfl (lv_at hl 2 rfl) ?_
    refine lv_iconst (v := 0) hx hb dX11_law_11 (by decide) ?_
    refine lv_iconst (v := 2) hx hb dX11_law_12 (by decide) ?_
    refine cc_S (av := [.int p2, .int 0, .int 2]) C (k_X11_isIn l D a p2 0 2) cw_X11_158 (okR_of hRf hRl (Nat.le_of_ble_eq_true rfl) (Nat.le_of_ble_eq_true rfl)) rfl rfl hl.1 (Nat.le_of_ble_eq_true rfl) (Nat.zero_le _) (Nat.zero_le _) dX11_law_13 ?_
    refine lv_if_eq (tgt := 23) hx hb dX11_law_16 (by decide) (fun c_5 => ?_) (fun c_5 => ?_)
    · have hf := hf.trans (if_pos c_5)
      have hok := oif_pos hok c_5
      refine lv_iconst (v := 1) hx hb dX11_law_23 (by decide) ?_
      exact J_24 1 hf hok ls (lv_sub hl [0, 1, 2] rfl)
    · have hf := hf.trans (if_neg c_5)
      have hok := oif_neg hok c_5
      refine lv_iconst (v := 0) hx hb dX11_law_19 (by decide) ?_
      refine lv_goto (tgt := 24) hx hb dX11_law_20 (by decide) ?_
      exact J_24 0 hf hok ls (lv_sub hl [0, 1, 2] rfl)
def f_X11_give_112 (μ : MS) (p1 : Int32) (p2 : Int32) (t0_112 : Int32) : Int32 × MS := (if t0_112 ≤ 0 then ((mi μ 51 (ix p1)), (mI (mI μ 0 0 t0_112) 51 (ix p1) p2)) else (0, (mI μ 0 0 t0_112)))
def of_X11_give_112 (μ : MS) (p1 : Int32) (p2 : Int32) (t0_112 : Int32) : Prop := (oif (t0_112 ≤ 0) (vp_in p1 40 ∧ (vp_in p1 40 ∧ True)) True)
def f_X11_give_63 (μ : MS) (p1 : Int32) (p2 : Int32) (v3_63 : Int32) (v4_63 : Int32) (t0_63 : Int32) : Int32 × MS := (if v3_63 = 0 then (f_X11_give_112 μ p1 p2 1) else (if v4_63 = 0 then (f_X11_give_112 μ p1 p2 2) else (if (mi μ 52 (ix p1)) = 0 then (if (mi μ 51 (ix p1)) = p2 then (f_X11_give_112 μ p1 p2 3) else (if t0_63 = 0 then (f_X11_give_112 μ p1 p2 0) else (f_X11_give_112 μ p1 p2 3))) else (f_X11_give_112 μ p1 p2 3))))
def of_X11_give_63 (μ : MS) (p1 : Int32) (p2 : Int32) (v3_63 : Int32) (v4_63 : Int32) (t0_63 : Int32) : Prop := (oif (v3_63 = 0) (of_X11_give_112 μ p1 p2 1) (oif (v4_63 = 0) (of_X11_give_112 μ p1 p2 2) (vp_in p1 40 ∧ (oif ((mi μ 52 (ix p1)) = 0) (vp_in p1 40 ∧ (oif ((mi μ 51 (ix p1)) = p2) (of_X11_give_112 μ p1 p2 3) (oif (t0_63 = 0) (of_X11_give_112 μ p1 p2 0) (of_X11_give_112 μ p1 p2 3)))) (of_X11_give_112 μ p1 p2 3)))))
def f_X11_give_37 (μ : MS) (p1 : Int32) (p2 : Int32) (v3_37 : Int32) (v4_37 : Int32) (t0_37 : Int32) : Int32 × MS := (if (mi μ 66 (ix t0_37)) = 2 then (if (p2 - p2 / 4 * 4) = t0_37 then (f_X11_give_63 μ p1 p2 v3_37 v4_37 0) else (f_X11_give_63 μ p1 p2 v3_37 v4_37 1)) else (f_X11_give_63 μ p1 p2 v3_37 v4_37 0))
def of_X11_give_37 (μ : MS) (p1 : Int32) (p2 : Int32) (v3_37 : Int32) (v4_37 : Int32) (t0_37 : Int32) : Prop := (vp_in t0_37 4 ∧ (oif ((mi μ 66 (ix t0_37)) = 2) (oif ((p2 - p2 / 4 * 4) = t0_37) (of_X11_give_63 μ p1 p2 v3_37 v4_37 0) (of_X11_give_63 μ p1 p2 v3_37 v4_37 1)) (of_X11_give_63 μ p1 p2 v3_37 v4_37 0)))
def f_X11_give (μ : MS) (p1 : Int32) (p2 : Int32) : Int32 × MS := (if (f_X11_isStone μ p1) = 0 then (f_X11_give_37 μ p1 p2 (f_X11_isStone μ p1) (f_X11_isIn p2 0 5) 0) else (f_X11_give_37 μ p1 p2 (f_X11_isStone μ p1) (f_X11_isIn p2 0 5) (f_X11_landOf (mi μ 47 (ix p1)) (mi μ 48 (ix p1)))))
def of_X11_give (μ : MS) (p1 : Int32) (p2 : Int32) : Prop := (of_X11_isStone μ p1 ∧ (oif ((f_X11_isStone μ p1) = 0) (of_X11_give_37 μ p1 p2 (f_X11_isStone μ p1) (f_X11_isIn p2 0 5) 0) (vp_in p1 40 ∧ (vp_in p1 40 ∧ (of_X11_give_37 μ p1 p2 (f_X11_isStone μ p1) (f_X11_isIn p2 0 5) (f_X11_landOf (mi μ 47 (ix p1)) (mi μ 48 (ix p1))))))))
set_option maxHeartbeats 4000000 in
set_option maxRecDepth 100000 in
theorem k_X11_give (l : Launch) (D : va_G) (a : Nat → ClassId) (mo : Nat) (μ : MS) (p1 : Int32) (p2 : Int32) (hok : of_X11_give μ p1 p2) : KM l D a mo yX11_give cX11_give 8 ((some .int)) 2 43 [.int p1, .int p2] μ (some (.int (f_X11_give μ p1 p2).1)) (f_X11_give μ p1 p2).2 := by
  refine goMi (by decide +kernel) (Nat.le_of_ble_eq_true rfl) ?_
  intro p e s m args below meth c ls R Q hRf hRl C hl hB
  obtain ⟨hM, ret⟩ := hB
  have hl : lv_has ls 8 [(0, .ref mo), (1, .int p1), (2, .int p2)] := hl
  have hx := C.1.1
  have hb := C.1.2.1
  have hts := C.1.2.2.2.2
  have hown := C.1.2.2.2.1
  have hf : (f_X11_give μ p1 p2) = (f_X11_give μ p1 p2) := rfl
  have J_112 : ∀ (t0_112 : Int32), (f_X11_give μ p1 p2) = f_X11_give_112 μ p1 p2 t0_112 → of_X11_give_112 μ p1 p2 t0_112 → ∀ (ls : Array Slot), lv_has ls 8 [(0, .ref mo), (1, .int p1), (2, .int p2)] → W p l e R s m args below meth c s.heap [] 0 0 Q (F0 m 112 ls [.int t0_112, .ref mo]) := by
    intro t0_112 hf hok ls hl
    refine mp_thrown C hM dX11_give_112 (fun H locs hM => ?_)
    refine lv_aload_n hx hb dX11_give_115 rfl (lv_at hl 0 rfl) ?_
    refine mg_thrown C hM dX11_give_116 ?_
    refine lv_if_le (tgt := 124) hx hb dX11_give_119 (by decide) (fun c_9 => ?_) (fun c_9 => ?_)
    · have hf := hf.trans (if_pos c_9)
      have hok := oif_pos hok c_9
      refine lv_aload_n hx hb dX11_give_124 rfl (lv_at hl 0 rfl) ?_
      refine mg_owners C hM dX11_give_125 ?_
      refine lv_iload_n hx hb dX11_give_128 rfl (lv_at hl 1 rfl) ?_
      have ok_10 := And.left hok
      have hok := And.right hok
      refine ma_owners C hM ok_10 dX11_give_129 ?_
      refine lv_istore (lv' := [(7, .int (mi μ 51 (ix p1))), (0, .ref mo), (1, .int p1), (2, .int p2)]) hx hb dX11_give_130 hl (by decide) rfl (fun ls hl => ?_)
      refine lv_aload_n hx hb dX11_give_132 rfl (lv_at hl 1 rfl) ?_
      refine mg_owners C hM dX11_give_133 ?_
      refine lv_iload_n hx hb dX11_give_136 rfl (lv_at hl 2 rfl) ?_
      refine lv_iload_n hx hb dX11_give_137 rfl (lv_at hl 3 rfl) ?_
      have ok_11 := And.left hok
      have hok := And.right hok
      refine ms_owners C hM ok_11 dX11_give_138 (fun H locs hM => ?_)
      refine lv_iload hx hb dX11_give_139 (lv_at hl 0 rfl) ?_
      exact ret _ _ _ _ _ _ hM dX11_give_141 hf
    · have hf := hf.trans (if_neg c_9)
      have hok := oif_neg hok c_9
      refine lv_iconst (v := 0) hx hb dX11_give_122 (by decide) ?_
      exact ret _ _ _ _ _ _ hM dX11_give_123 hf
  have J_63 : ∀ (v3_63 : Int32) (v4_63 : Int32) (t0_63 : Int32), (f_X11_give μ p1 p2) = f_X11_give_63 μ p1 p2 v3_63 v4_63 t0_63 → of_X11_give_63 μ p1 p2 v3_63 v4_63 t0_63 → ∀ (ls : Array Slot), lv_has ls 8 [(0, .ref mo), (1, .int p1), (2, .int p2), (3, .int v3_63), (4, .int v4_63)] → W p l e R s m args below meth c s.heap [] 0 0 Q (F0 m 63 ls [.int t0_63]) := by
    intro v3_63 v4_63 t0_63 hf hok ls hl
    refine lv_istore (lv' := [(6, .int t0_63), (0, .ref mo), (1, .int p1), (2, .int p2), (3, .int v3_63), (4, .int v4_63)]) hx hb dX11_give_63 hl (by decide) rfl (fun ls hl => ?_)
    refine lv_aload_n hx hb dX11_give_65 rfl (lv_at hl 1 rfl) ?_
    refine lv_iload_n hx hb dX11_give_66 rfl (lv_at hl 4 rfl) ?_
    refine lv_if_ne (tgt := 74) hx hb dX11_give_67 (by decide) (fun c_5 => ?_) (fun c_5 => ?_)
    · have hf := hf.trans (if_neg c_5)
      have hok := oif_neg hok c_5
      refine lv_iload hx hb dX11_give_74 (lv_at hl 5 rfl) ?_
      refine lv_if_ne (tgt := 83) hx hb dX11_give_76 (by decide) (fun c_6 => ?_) (fun c_6 => ?_)
      · have hf := hf.trans (if_neg c_6)
        have hok := oif_neg hok c_6
        refine lv_aload_n hx hb dX11_give_83 rfl (lv_at hl 1 rfl) ?_
        refine mg_where C hM dX11_give_84 ?_
        refine lv_iload_n hx hb dX11_give_87 rfl (lv_at hl 2 rfl) ?_
        have ok_7 := And.left hok
        have hok := And.right hok
        refine ma_where C hM ok_7 dX11_give_88 ?_
        refine lv_if_ne (tgt := 107) hx hb dX11_give_89 (by decide) (fun c_8 => ?_) (fun c_8 => ?_)
        · have hf := hf.trans (if_neg c_8)
          have hok := oif_neg hok c_8
          refine lv_iconst (v := 3) hx hb dX11_give_107 (by decide) ?_
          refine lv_goto (tgt := 112) hx hb dX11_give_108 (by decide) ?_
          exact J_112 3 hf hok ls (lv_sub hl [1, 2, 3] rfl)
        · have hf := hf.trans (if_pos c_8)
          have hok := oif_pos hok c_8
          refine lv_aload_n hx hb dX11_give_92 rfl (lv_at hl 1 rfl) ?_
          refine mg_owners C hM dX11_give_93 ?_
          refine lv_iload_n hx hb dX11_give_96 rfl (lv_at hl 2 rfl) ?_
          have ok_12 := And.left hok
          have hok := And.right hok
          refine ma_owners C hM ok_12 dX11_give_97 ?_
          refine lv_iload_n hx hb dX11_give_98 rfl (lv_at hl 3 rfl) ?_
          refine lv_icmp_eq (tgt := 107) hx hb dX11_give_99 (by decide) (fun c_13 => ?_) (fun c_13 => ?_)
          · have hf := hf.trans (if_pos c_13)
            have hok := oif_pos hok c_13
            refine lv_iconst (v := 3) hx hb dX11_give_107 (by decide) ?_
            refine lv_goto (tgt := 112) hx hb dX11_give_108 (by decide) ?_
            exact J_112 3 hf hok ls (lv_sub hl [1, 2, 3] rfl)
          · have hf := hf.trans (if_neg c_13)
            have hok := oif_neg hok c_13
            refine lv_iload hx hb dX11_give_102 (lv_at hl 0 rfl) ?_
            refine lv_if_eq (tgt := 111) hx hb dX11_give_104 (by decide) (fun c_14 => ?_) (fun c_14 => ?_)
            · have hf := hf.trans (if_pos c_14)
              have hok := oif_pos hok c_14
              refine lv_iconst (v := 0) hx hb dX11_give_111 (by decide) ?_
              exact J_112 0 hf hok ls (lv_sub hl [1, 2, 3] rfl)
            · have hf := hf.trans (if_neg c_14)
              have hok := oif_neg hok c_14
              refine lv_iconst (v := 3) hx hb dX11_give_107 (by decide) ?_
              refine lv_goto (tgt := 112) hx hb dX11_give_108 (by decide) ?_
              exact J_112 3 hf hok ls (lv_sub hl [1, 2, 3] rfl)
      · have hf := hf.trans (if_pos c_6)
        have hok := oif_pos hok c_6
        refine lv_iconst (v := 2) hx hb dX11_give_79 (by decide) ?_
        refine lv_goto (tgt := 112) hx hb dX11_give_80 (by decide) ?_
        exact J_112 2 hf hok ls (lv_sub hl [1, 2, 3] rfl)
    · have hf := hf.trans (if_pos c_5)
      have hok := oif_pos hok c_5
      refine lv_iconst (v := 1) hx hb dX11_give_70 (by decide) ?_
      refine lv_goto (tgt := 112) hx hb dX11_give_71 (by decide) ?_
      exact J_112 1 hf hok ls (lv_sub hl [1, 2, 3] rfl)
  have J_37 : ∀ (v3_37 : Int32) (v4_37 : Int32) (t0_37 : Int32), (f_X11_give μ p1 p2) = f_X11_give_37 μ p1 p2 v3_37 v4_37 t0_37 → of_X11_give_37 μ p1 p2 v3_37 v4_37 t0_37 → ∀ (ls : Array Slot), lv_has ls 8 [(0, .ref mo), (1, .int p1), (2, .int p2), (3, .int v3_37), (4, .int v4_37)] → W p l e R s m args below meth c s.heap [] 0 0 Q (F0 m 37 ls [.int t0_37]) := by
    intro v3_37 v4_37 t0_37 hf hok ls hl
    refine lv_istore (lv' := [(5, .int t0_37), (0, .ref mo), (1, .int p1), (2, .int p2), (3, .int v3_37), (4, .int v4_37)]) hx hb dX11_give_37 hl (by decide) rfl (fun ls hl => ?_)
    refine lv_aload_n hx hb dX11_give_39 rfl (lv_at hl 1 rfl) ?_
    refine mg_laws C hM dX11_give_40 ?_
    refine lv_iload hx hb dX11_give_43 (lv_at hl 0 rfl) ?_
    have ok_3 := And.left hok
    have hok := And.right hok
    refine ma_laws C hM ok_3 dX11_give_45 ?_
    refine lv_iconst (v := 2) hx hb dX11_give_46 (by decide) ?_
    refine lv_icmp_ne (tgt := 62) hx hb dX11_give_47 (by decide) (fun c_4 => ?_) (fun c_4 => ?_)
    · have hf := hf.trans (if_neg c_4)
      have hok := oif_neg hok c_4
      refine lv_iconst (v := 0) hx hb dX11_give_62 (by decide) ?_
      exact J_63 v3_37 v4_37 0 hf hok ls (lv_sub hl [1, 2, 3, 4, 5] rfl)
    · have hf := hf.trans (if_pos c_4)
      have hok := oif_pos hok c_4
      refine lv_iload_n hx hb dX11_give_50 rfl (lv_at hl 3 rfl) ?_
      refine lv_iconst (v := 4) hx hb dX11_give_51 (by decide) ?_
      refine lv_irem hx hb dX11_give_52 (by decide) ?_
      refine lv_iload hx hb dX11_give_53 (lv_at hl 0 rfl) ?_
      refine lv_icmp_eq (tgt := 62) hx hb dX11_give_55 (by decide) (fun c_15 => ?_) (fun c_15 => ?_)
      · have hf := hf.trans (if_pos c_15)
        have hok := oif_pos hok c_15
        refine lv_iconst (v := 0) hx hb dX11_give_62 (by decide) ?_
        exact J_63 v3_37 v4_37 0 hf hok ls (lv_sub hl [1, 2, 3, 4, 5] rfl)
      · have hf := hf.trans (if_neg c_15)
        have hok := oif_neg hok c_15
        refine lv_iconst (v := 1) hx hb dX11_give_58 (by decide) ?_
        refine lv_goto (tgt := 63) hx hb dX11_give_59 (by decide) ?_
        exact J_63 v3_37 v4_37 1 hf hok ls (lv_sub hl [1, 2, 3, 4, 5] rfl)
  refine lv_aload_n hx hb dX11_give_0 rfl (lv_at hl 0 rfl) ?_
  refine lv_iload_n hx hb dX11_give_1 rfl (lv_at hl 1 rfl) ?_
  have ok_1 := And.left hok
  have hok := And.right hok
  refine cc_R (av := [.int p1]) C hM (k_X11_isStone l D a mo μ p1 ok_1) cw_X11_314 (okR_of hRf hRl (Nat.le_of_ble_eq_true rfl) (Nat.le_of_ble_eq_true rfl)) rfl rfl hl.1 (Nat.le_of_ble_eq_true rfl) (Nat.zero_le _) (Nat.zero_le _) dX11_give_2 ?_
  refine lv_istore_n (lv' := [(3, .int (f_X11_isStone μ p1)), (0, .ref mo), (1, .int p1), (2, .int p2)]) hx hb dX11_give_5 rfl hl (by decide) rfl (fun ls hl => ?_)
  refine lv_iload_n hx hb dX11_give_6 rfl (lv_at hl 3 rfl) ?_
  refine lv_iconst (v := 0) hx hb dX11_give_7 (by decide) ?_
  refine lv_iconst (v := 5) hx hb dX11_give_8 (by decide) ?_
  refine cc_S (av := [.int p2, .int 0, .int 5]) C (k_X11_isIn l D a p2 0 5) cw_X11_158 (okR_of hRf hRl (Nat.le_of_ble_eq_true rfl) (Nat.le_of_ble_eq_true rfl)) rfl rfl hl.1 (Nat.le_of_ble_eq_true rfl) (Nat.zero_le _) (Nat.zero_le _) dX11_give_9 ?_
  refine lv_istore (lv' := [(4, .int (f_X11_isIn p2 0 5)), (3, .int (f_X11_isStone μ p1)), (0, .ref mo), (1, .int p1), (2, .int p2)]) hx hb dX11_give_12 hl (by decide) rfl (fun ls hl => ?_)
  refine lv_iload_n hx hb dX11_give_14 rfl (lv_at hl 1 rfl) ?_
  refine lv_if_eq (tgt := 36) hx hb dX11_give_15 (by decide) (fun c_2 => ?_) (fun c_2 => ?_)
  · have hf := hf.trans (if_pos c_2)
    have hok := oif_pos hok c_2
    refine lv_iconst (v := 0) hx hb dX11_give_36 (by decide) ?_
    exact J_37 (f_X11_isStone μ p1) (f_X11_isIn p2 0 5) 0 hf hok ls (lv_sub hl [2, 3, 4, 1, 0] rfl)
  · have hf := hf.trans (if_neg c_2)
    have hok := oif_neg hok c_2
    refine lv_aload_n hx hb dX11_give_18 rfl (lv_at hl 2 rfl) ?_
    refine mg_stoneX C hM dX11_give_19 ?_
    refine lv_iload_n hx hb dX11_give_22 rfl (lv_at hl 3 rfl) ?_
    have ok_16 := And.left hok
    have hok := And.right hok
    refine ma_stoneX C hM ok_16 dX11_give_23 ?_
    refine lv_aload_n hx hb dX11_give_24 rfl (lv_at hl 2 rfl) ?_
    refine mg_stoneY C hM dX11_give_25 ?_
    refine lv_iload_n hx hb dX11_give_28 rfl (lv_at hl 3 rfl) ?_
    have ok_17 := And.left hok
    have hok := And.right hok
    refine ma_stoneY C hM ok_17 dX11_give_29 ?_
    refine cc_S (av := [.int (mi μ 47 (ix p1)), .int (mi μ 48 (ix p1))]) C (k_X11_landOf l D a (mi μ 47 (ix p1)) (mi μ 48 (ix p1))) cw_X11_306 (okR_of hRf hRl (Nat.le_of_ble_eq_true rfl) (Nat.le_of_ble_eq_true rfl)) rfl rfl hl.1 (Nat.le_of_ble_eq_true rfl) (Nat.zero_le _) (Nat.zero_le _) dX11_give_30 ?_
    refine lv_goto (tgt := 37) hx hb dX11_give_33 (by decide) ?_
    exact J_37 (f_X11_isStone μ p1) (f_X11_isIn p2 0 5) (f_X11_landOf (mi μ 47 (ix p1)) (mi μ 48 (ix p1))) hf hok ls (lv_sub hl [2, 3, 4, 1, 0] rfl)
def f_X11_name_83 (μ : MS) (p1 : Int32) (p2 : Int32) (μ_83 : MS) : Int32 × MS := ((mi μ_83 62 (ix p2)), μ_83)
def of_X11_name_83 (μ : MS) (p1 : Int32) (p2 : Int32) (μ_83 : MS) : Prop := (vp_in p2 10 ∧ True)
def f_X11_name_44 (μ : MS) (p1 : Int32) (p2 : Int32) (t0_44 : Int32) : Int32 × MS := (if t0_44 ≤ 0 then (f_X11_name_83 μ p1 p2 (mI (mI (mI μ 0 0 t0_44) 62 (ix p2) ((mi μ 62 (ix p2)) + 1)) 60 (ix p1) ((100 * p2) + (mi (mI (mI μ 0 0 t0_44) 62 (ix p2) ((mi μ 62 (ix p2)) + 1)) 62 (ix p2))))) else (0, (mI μ 0 0 t0_44)))
def of_X11_name_44 (μ : MS) (p1 : Int32) (p2 : Int32) (t0_44 : Int32) : Prop := (oif (t0_44 ≤ 0) (vp_in p2 10 ∧ (vp_in p2 10 ∧ (vp_in p2 10 ∧ (vp_in p1 40 ∧ (of_X11_name_83 μ p1 p2 (mI (mI (mI μ 0 0 t0_44) 62 (ix p2) ((mi μ 62 (ix p2)) + 1)) 60 (ix p1) ((100 * p2) + (mi (mI (mI μ 0 0 t0_44) 62 (ix p2) ((mi μ 62 (ix p2)) + 1)) 62 (ix p2))))))))) True)
def f_X11_name (μ : MS) (p1 : Int32) (p2 : Int32) : Int32 × MS := (if (f_X11_isStone μ p1) = 0 then (f_X11_name_44 μ p1 p2 1) else (if (f_X11_isIn p2 0 9) = 0 then (f_X11_name_44 μ p1 p2 2) else (if (mi μ 60 (ix p1)) = (-1) then (f_X11_name_44 μ p1 p2 0) else (f_X11_name_44 μ p1 p2 3))))
def of_X11_name (μ : MS) (p1 : Int32) (p2 : Int32) : Prop := (of_X11_isStone μ p1 ∧ (oif ((f_X11_isStone μ p1) = 0) (of_X11_name_44 μ p1 p2 1) (oif ((f_X11_isIn p2 0 9) = 0) (of_X11_name_44 μ p1 p2 2) (vp_in p1 40 ∧ (oif ((mi μ 60 (ix p1)) = (-1)) (of_X11_name_44 μ p1 p2 0) (of_X11_name_44 μ p1 p2 3))))))
set_option maxHeartbeats 4000000 in
set_option maxRecDepth 100000 in
theorem k_X11_name (l : Launch) (D : va_G) (a : Nat → ClassId) (mo : Nat) (μ : MS) (p1 : Int32) (p2 : Int32) (hok : of_X11_name μ p1 p2) : KM l D a mo yX11_name cX11_name 4 ((some .int)) 2 43 [.int p1, .int p2] μ (some (.int (f_X11_name μ p1 p2).1)) (f_X11_name μ p1 p2).2 := by
  refine goMi (by decide +kernel) (Nat.le_of_ble_eq_true rfl) ?_
  intro p e s m args below meth c ls R Q hRf hRl C hl hB
  obtain ⟨hM, ret⟩ := hB
  have hl : lv_has ls 4 [(0, .ref mo), (1, .int p1), (2, .int p2)] := hl
  have hx := C.1.1
  have hb := C.1.2.1
  have hts := C.1.2.2.2.2
  have hown := C.1.2.2.2.1
  have hf : (f_X11_name μ p1 p2) = (f_X11_name μ p1 p2) := rfl
  have J_83 : ∀ (μ_83 : MS), (f_X11_name μ p1 p2) = f_X11_name_83 μ p1 p2 μ_83 → of_X11_name_83 μ p1 p2 μ_83 → ∀ (H : Heap) (locs : List Loc) (ls : Array Slot), HM D a mo μ_83 s.heap H locs → lv_has ls 4 [(0, .ref mo), (2, .int p2)] → W p l e R s m args below meth c H locs 0 0 Q (F0 m 83 ls []) := by
    intro μ_83 hf hok H locs ls hM hl
    refine lv_aload_n hx hb dX11_name_83 rfl (lv_at hl 0 rfl) ?_
    refine mg_named C hM dX11_name_84 ?_
    refine lv_iload_n hx hb dX11_name_87 rfl (lv_at hl 1 rfl) ?_
    have ok_11 := And.left hok
    have hok := And.right hok
    refine ma_named C hM ok_11 dX11_name_88 ?_
    exact ret _ _ _ _ _ _ hM dX11_name_89 hf
  have J_44 : ∀ (t0_44 : Int32), (f_X11_name μ p1 p2) = f_X11_name_44 μ p1 p2 t0_44 → of_X11_name_44 μ p1 p2 t0_44 → ∀ (ls : Array Slot), lv_has ls 4 [(0, .ref mo), (1, .int p1), (2, .int p2)] → W p l e R s m args below meth c s.heap [] 0 0 Q (F0 m 44 ls [.int t0_44, .ref mo]) := by
    intro t0_44 hf hok ls hl
    refine mp_thrown C hM dX11_name_44 (fun H locs hM => ?_)
    refine lv_aload_n hx hb dX11_name_47 rfl (lv_at hl 0 rfl) ?_
    refine mg_thrown C hM dX11_name_48 ?_
    refine lv_if_le (tgt := 56) hx hb dX11_name_51 (by decide) (fun c_6 => ?_) (fun c_6 => ?_)
    · have hf := hf.trans (if_pos c_6)
      have hok := oif_pos hok c_6
      refine lv_aload_n hx hb dX11_name_56 rfl (lv_at hl 0 rfl) ?_
      refine mg_named C hM dX11_name_57 ?_
      refine lv_iload_n hx hb dX11_name_60 rfl (lv_at hl 2 rfl) ?_
      refine lv_dup2_11 hx hb dX11_name_61 rfl rfl ?_
      have ok_7 := And.left hok
      have hok := And.right hok
      refine ma_named C hM ok_7 dX11_name_62 ?_
      refine lv_iconst (v := 1) hx hb dX11_name_63 (by decide) ?_
      refine lv_iadd hx hb dX11_name_64 ?_
      have ok_8 := And.left hok
      have hok := And.right hok
      refine ms_named C hM ok_8 dX11_name_65 (fun H locs hM => ?_)
      refine lv_aload_n hx hb dX11_name_66 rfl (lv_at hl 0 rfl) ?_
      refine mg_names C hM dX11_name_67 ?_
      refine lv_iload_n hx hb dX11_name_70 rfl (lv_at hl 1 rfl) ?_
      refine lv_bipush (v := 100) hx hb dX11_name_71 (by decide) ?_
      refine lv_iload_n hx hb dX11_name_73 rfl (lv_at hl 2 rfl) ?_
      refine lv_imul hx hb dX11_name_74 ?_
      refine lv_aload_n hx hb dX11_name_75 rfl (lv_at hl 0 rfl) ?_
      refine mg_named C hM dX11_name_76 ?_
      refine lv_iload_n hx hb dX11_name_79 rfl (lv_at hl 2 rfl) ?_
      have ok_9 := And.left hok
      have hok := And.right hok
      refine ma_named C hM ok_9 dX11_name_80 ?_
      refine lv_iadd hx hb dX11_name_81 ?_
      have ok_10 := And.left hok
      have hok := And.right hok
      refine ms_names C hM ok_10 dX11_name_82 (fun H locs hM => ?_)
      exact J_83 (mI (mI (mI μ 0 0 t0_44) 62 (ix p2) ((mi μ 62 (ix p2)) + 1)) 60 (ix p1) ((100 * p2) + (mi (mI (mI μ 0 0 t0_44) 62 (ix p2) ((mi μ 62 (ix p2)) + 1)) 62 (ix p2)))) hf hok _ _ ls hM (lv_sub hl [0, 2] rfl)
    · have hf := hf.trans (if_neg c_6)
      have hok := oif_neg hok c_6
      refine lv_iconst (v := 0) hx hb dX11_name_54 (by decide) ?_
      exact ret _ _ _ _ _ _ hM dX11_name_55 hf
  refine lv_aload_n hx hb dX11_name_0 rfl (lv_at hl 0 rfl) ?_
  refine lv_iload_n hx hb dX11_name_1 rfl (lv_at hl 1 rfl) ?_
  have ok_1 := And.left hok
  have hok := And.right hok
  refine cc_R (av := [.int p1]) C hM (k_X11_isStone l D a mo μ p1 ok_1) cw_X11_314 (okR_of hRf hRl (Nat.le_of_ble_eq_true rfl) (Nat.le_of_ble_eq_true rfl)) rfl rfl hl.1 (Nat.le_of_ble_eq_true rfl) (Nat.zero_le _) (Nat.zero_le _) dX11_name_2 ?_
  refine lv_istore_n (lv' := [(3, .int (f_X11_isStone μ p1)), (0, .ref mo), (1, .int p1), (2, .int p2)]) hx hb dX11_name_5 rfl hl (by decide) rfl (fun ls hl => ?_)
  refine lv_aload_n hx hb dX11_name_6 rfl (lv_at hl 1 rfl) ?_
  refine lv_iload_n hx hb dX11_name_7 rfl (lv_at hl 0 rfl) ?_
  refine lv_if_ne (tgt := 15) hx hb dX11_name_8 (by decide) (fun c_2 => ?_) (fun c_2 => ?_)
  · have hf := hf.trans (if_neg c_2)
    have hok := oif_neg hok c_2
    refine lv_iload_n hx hb dX11_name_15 rfl (lv_at hl 3 rfl) ?_
    refine lv_iconst (v := 0) hx hb dX11_name_16 (by decide) ?_
    refine lv_bipush (v := 9) hx hb dX11_name_17 (by decide) ?_
    refine cc_S (av := [.int p2, .int 0, .int 9]) C (k_X11_isIn l D a p2 0 9) cw_X11_158 (okR_of hRf hRl (Nat.le_of_ble_eq_true rfl) (Nat.le_of_ble_eq_true rfl)) rfl rfl hl.1 (Nat.le_of_ble_eq_true rfl) (Nat.zero_le _) (Nat.zero_le _) dX11_name_19 ?_
    refine lv_if_ne (tgt := 29) hx hb dX11_name_22 (by decide) (fun c_3 => ?_) (fun c_3 => ?_)
    · have hf := hf.trans (if_neg c_3)
      have hok := oif_neg hok c_3
      refine lv_aload_n hx hb dX11_name_29 rfl (lv_at hl 1 rfl) ?_
      refine mg_names C hM dX11_name_30 ?_
      refine lv_iload_n hx hb dX11_name_33 rfl (lv_at hl 2 rfl) ?_
      have ok_4 := And.left hok
      have hok := And.right hok
      refine ma_names C hM ok_4 dX11_name_34 ?_
      refine lv_iconst (v := (-1)) hx hb dX11_name_35 (by decide) ?_
      refine lv_icmp_eq (tgt := 43) hx hb dX11_name_36 (by decide) (fun c_5 => ?_) (fun c_5 => ?_)
      · have hf := hf.trans (if_pos c_5)
        have hok := oif_pos hok c_5
        refine lv_iconst (v := 0) hx hb dX11_name_43 (by decide) ?_
        exact J_44 0 hf hok ls (lv_sub hl [1, 2, 3] rfl)
      · have hf := hf.trans (if_neg c_5)
        have hok := oif_neg hok c_5
        refine lv_iconst (v := 3) hx hb dX11_name_39 (by decide) ?_
        refine lv_goto (tgt := 44) hx hb dX11_name_40 (by decide) ?_
        exact J_44 3 hf hok ls (lv_sub hl [1, 2, 3] rfl)
    · have hf := hf.trans (if_pos c_3)
      have hok := oif_pos hok c_3
      refine lv_iconst (v := 2) hx hb dX11_name_25 (by decide) ?_
      refine lv_goto (tgt := 44) hx hb dX11_name_26 (by decide) ?_
      exact J_44 2 hf hok ls (lv_sub hl [1, 2, 3] rfl)
  · have hf := hf.trans (if_pos c_2)
    have hok := oif_pos hok c_2
    refine lv_iconst (v := 1) hx hb dX11_name_11 (by decide) ?_
    refine lv_goto (tgt := 44) hx hb dX11_name_12 (by decide) ?_
    exact J_44 1 hf hok ls (lv_sub hl [1, 2, 3] rfl)
def f_X11_doubt_28 (μ : MS) (p1 : Int32) (p2 : Int32) (t0_28 : Int32) : Int32 × MS := (if t0_28 ≤ 0 then ((mi μ 61 (ix p1)), (mI (mI μ 0 0 t0_28) 61 (ix p1) (bz p2))) else (0, (mI μ 0 0 t0_28)))
def of_X11_doubt_28 (μ : MS) (p1 : Int32) (p2 : Int32) (t0_28 : Int32) : Prop := (oif (t0_28 ≤ 0) (vp_in p1 40 ∧ (vp_in p1 40 ∧ (zb (mi μ 61 (ix p1)) ∧ True))) True)
def f_X11_doubt (μ : MS) (p1 : Int32) (p2 : Int32) : Int32 × MS := (if (f_X11_isStone μ p1) = 0 then (f_X11_doubt_28 μ p1 p2 1) else (if (mi μ 60 (ix p1)) = (-1) then (f_X11_doubt_28 μ p1 p2 2) else (f_X11_doubt_28 μ p1 p2 0)))
def of_X11_doubt (μ : MS) (p1 : Int32) (p2 : Int32) : Prop := (of_X11_isStone μ p1 ∧ (oif ((f_X11_isStone μ p1) = 0) (of_X11_doubt_28 μ p1 p2 1) (vp_in p1 40 ∧ (oif ((mi μ 60 (ix p1)) = (-1)) (of_X11_doubt_28 μ p1 p2 2) (of_X11_doubt_28 μ p1 p2 0)))))
set_option maxHeartbeats 4000000 in
set_option maxRecDepth 100000 in
theorem k_X11_doubt (l : Launch) (D : va_G) (a : Nat → ClassId) (mo : Nat) (μ : MS) (p1 : Int32) (p2 : Int32) (hok : of_X11_doubt μ p1 p2) : KM l D a mo yX11_doubt cX11_doubt 4 ((some .boolean)) 2 43 [.int p1, .int p2] μ (some (.int (f_X11_doubt μ p1 p2).1)) (f_X11_doubt μ p1 p2).2 := by
  refine goMz (by decide +kernel) (Nat.le_of_ble_eq_true rfl) ?_
  intro p e s m args below meth c ls R Q hRf hRl C hl hB
  obtain ⟨hM, ret⟩ := hB
  have hl : lv_has ls 4 [(0, .ref mo), (1, .int p1), (2, .int p2)] := hl
  have hx := C.1.1
  have hb := C.1.2.1
  have hts := C.1.2.2.2.2
  have hown := C.1.2.2.2.1
  have hf : (f_X11_doubt μ p1 p2) = (f_X11_doubt μ p1 p2) := rfl
  have J_28 : ∀ (t0_28 : Int32), (f_X11_doubt μ p1 p2) = f_X11_doubt_28 μ p1 p2 t0_28 → of_X11_doubt_28 μ p1 p2 t0_28 → ∀ (ls : Array Slot), lv_has ls 4 [(0, .ref mo), (1, .int p1), (2, .int p2)] → W p l e R s m args below meth c s.heap [] 0 0 Q (F0 m 28 ls [.int t0_28, .ref mo]) := by
    intro t0_28 hf hok ls hl
    refine mp_thrown C hM dX11_doubt_28 (fun H locs hM => ?_)
    refine lv_aload_n hx hb dX11_doubt_31 rfl (lv_at hl 0 rfl) ?_
    refine mg_thrown C hM dX11_doubt_32 ?_
    refine lv_if_le (tgt := 40) hx hb dX11_doubt_35 (by decide) (fun c_5 => ?_) (fun c_5 => ?_)
    · have hf := hf.trans (if_pos c_5)
      have hok := oif_pos hok c_5
      refine lv_aload_n hx hb dX11_doubt_40 rfl (lv_at hl 0 rfl) ?_
      refine mg_areDoubtful C hM dX11_doubt_41 ?_
      refine lv_iload_n hx hb dX11_doubt_44 rfl (lv_at hl 1 rfl) ?_
      have ok_6 := And.left hok
      have hok := And.right hok
      refine ma_areDoubtful C hM ok_6 dX11_doubt_45 ?_
      refine lv_istore_n (lv' := [(3, .int (mi μ 61 (ix p1))), (0, .ref mo), (1, .int p1), (2, .int p2)]) hx hb dX11_doubt_46 rfl hl (by decide) rfl (fun ls hl => ?_)
      refine lv_aload_n hx hb dX11_doubt_47 rfl (lv_at hl 1 rfl) ?_
      refine mg_areDoubtful C hM dX11_doubt_48 ?_
      refine lv_iload_n hx hb dX11_doubt_51 rfl (lv_at hl 2 rfl) ?_
      refine lv_iload_n hx hb dX11_doubt_52 rfl (lv_at hl 3 rfl) ?_
      have ok_7 := And.left hok
      have hok := And.right hok
      refine ms_areDoubtful C hM ok_7 dX11_doubt_53 (fun H locs hM => ?_)
      refine lv_iload_n hx hb dX11_doubt_54 rfl (lv_at hl 0 rfl) ?_
      have ok_8 := And.left hok
      have hok := And.right hok
      exact ret _ _ _ _ _ _ hM dX11_doubt_55 ok_8 hf
    · have hf := hf.trans (if_neg c_5)
      have hok := oif_neg hok c_5
      refine lv_iconst (v := 0) hx hb dX11_doubt_38 (by decide) ?_
      exact ret _ _ _ _ _ _ hM dX11_doubt_39 (by unfold zb; decide) hf
  refine lv_aload_n hx hb dX11_doubt_0 rfl (lv_at hl 0 rfl) ?_
  refine lv_aload_n hx hb dX11_doubt_1 rfl (lv_at hl 0 rfl) ?_
  refine lv_iload_n hx hb dX11_doubt_2 rfl (lv_at hl 1 rfl) ?_
  have ok_1 := And.left hok
  have hok := And.right hok
  refine cc_R (av := [.int p1]) C hM (k_X11_isStone l D a mo μ p1 ok_1) cw_X11_314 (okR_of hRf hRl (Nat.le_of_ble_eq_true rfl) (Nat.le_of_ble_eq_true rfl)) rfl rfl hl.1 (Nat.le_of_ble_eq_true rfl) (Nat.zero_le _) (Nat.zero_le _) dX11_doubt_3 ?_
  refine lv_if_ne (tgt := 13) hx hb dX11_doubt_6 (by decide) (fun c_2 => ?_) (fun c_2 => ?_)
  · have hf := hf.trans (if_neg c_2)
    have hok := oif_neg hok c_2
    refine lv_aload_n hx hb dX11_doubt_13 rfl (lv_at hl 0 rfl) ?_
    refine mg_names C hM dX11_doubt_14 ?_
    refine lv_iload_n hx hb dX11_doubt_17 rfl (lv_at hl 1 rfl) ?_
    have ok_3 := And.left hok
    have hok := And.right hok
    refine ma_names C hM ok_3 dX11_doubt_18 ?_
    refine lv_iconst (v := (-1)) hx hb dX11_doubt_19 (by decide) ?_
    refine lv_icmp_ne (tgt := 27) hx hb dX11_doubt_20 (by decide) (fun c_4 => ?_) (fun c_4 => ?_)
    · have hf := hf.trans (if_neg c_4)
      have hok := oif_neg hok c_4
      refine lv_iconst (v := 0) hx hb dX11_doubt_27 (by decide) ?_
      exact J_28 0 hf hok ls (lv_sub hl [0, 1, 2] rfl)
    · have hf := hf.trans (if_pos c_4)
      have hok := oif_pos hok c_4
      refine lv_iconst (v := 2) hx hb dX11_doubt_23 (by decide) ?_
      refine lv_goto (tgt := 28) hx hb dX11_doubt_24 (by decide) ?_
      exact J_28 2 hf hok ls (lv_sub hl [0, 1, 2] rfl)
  · have hf := hf.trans (if_pos c_2)
    have hok := oif_pos hok c_2
    refine lv_iconst (v := 1) hx hb dX11_doubt_9 (by decide) ?_
    refine lv_goto (tgt := 28) hx hb dX11_doubt_10 (by decide) ?_
    exact J_28 1 hf hok ls (lv_sub hl [0, 1, 2] rfl)
def b_X11_namesake_2 (μ : MS) (w2_2 : Int32) : Bool × (Int32) := (if w2_2 = (-1) then (false, w2_2) else (if (mi μ 60 (ix w2_2)) = (-1) then (true, (mi μ 54 (ix w2_2))) else (false, w2_2)))
def ob_X11_namesake_2 (μ : MS) (w2_2 : Int32) : Prop := (oif (w2_2 = (-1)) True (vp_in w2_2 40 ∧ (oif ((mi μ 60 (ix w2_2)) = (-1)) (vp_in w2_2 40 ∧ True) True)))
def s_X11_namesake_2 (μ : MS) (v : Int32) : Bool × (Int32) := b_X11_namesake_2 μ v
def os_X11_namesake_2 (μ : MS) (v : Int32) : Prop := ob_X11_namesake_2 μ v
def f_X11_namesake_27 (μ : MS) (p1 : Int32) (v2_27 : Int32) : Int32 := v2_27
def f_X11_namesake_2 (μ : MS) (p1 : Int32) (v2_2 : Int32) : Int32 := (f_X11_namesake_27 μ p1 (itr (s_X11_namesake_2 μ) FU v2_2))
def of_X11_namesake_2 (μ : MS) (p1 : Int32) (v2_2 : Int32) : Prop := (ito (s_X11_namesake_2 μ) (os_X11_namesake_2 μ) FU v2_2 ∧ True)
def f_X11_namesake (μ : MS) (p1 : Int32) : Int32 := (f_X11_namesake_2 μ p1 p1)
def of_X11_namesake (μ : MS) (p1 : Int32) : Prop := (of_X11_namesake_2 μ p1 p1)
set_option maxHeartbeats 4000000 in
set_option maxRecDepth 100000 in
theorem k_X11_namesake (l : Launch) (D : va_G) (a : Nat → ClassId) (mo : Nat) (μ : MS) (p1 : Int32) (hok : of_X11_namesake μ p1) : K0 l yX11_namesake cX11_namesake 3 ((some .int)) 0 0 [.ref mo, .int p1] (BM D a mo μ) (.int (f_X11_namesake μ p1)) := by
  refine go0i (D := D) (a := a) (by decide +kernel) (fun _ h => h.1) (Nat.le_of_ble_eq_true rfl) ?_
  intro p e s m args below meth c ls R Q hRf hRl C hl hB
  obtain ⟨hB, ret⟩ := hB
  have hM : HM D a mo μ s.heap s.heap [] := ⟨hB.2, va_S.rf⟩
  have hl : lv_has ls 3 [(0, .ref mo), (1, .int p1)] := hl
  have hx := C.1.1
  have hb := C.1.2.1
  have hts := C.1.2.2.2.2
  have hown := C.1.2.2.2.1
  have hf : (f_X11_namesake μ p1) = (f_X11_namesake μ p1) := rfl
  have J_27 : ∀ (v2_27 : Int32), (f_X11_namesake μ p1) = f_X11_namesake_27 μ p1 v2_27 → ∀ (ls : Array Slot), lv_has ls 3 [(2, .int v2_27)] → W p l e R s m args below meth c s.heap [] 0 0 Q (F0 m 27 ls []) := by
    intro v2_27 hf ls hl
    refine lv_iload_n hx hb dX11_namesake_27 rfl (lv_at hl 0 rfl) ?_
    exact ret _ _ _ dX11_namesake_28 hf
  have J_2 : ∀ (v2_2 : Int32), (f_X11_namesake μ p1) = f_X11_namesake_2 μ p1 v2_2 → of_X11_namesake_2 μ p1 v2_2 → ∀ (ls : Array Slot), lv_has ls 3 [(0, .ref mo), (2, .int v2_2)] → W p l e R s m args below meth c s.heap [] 0 0 Q (F0 m 2 ls []) := by
    intro v2_2 hf hok ls hl
    refine itr_W (f := (s_X11_namesake_2 μ)) (o := (os_X11_namesake_2 μ)) (fun (v : Int32) => ∀ (ls : Array Slot), lv_has ls 3 [(0, .ref mo), (2, .int v)] → W p l e R s m args below meth c s.heap [] 0 0 Q (F0 m 2 ls [])) (fun (v : Int32) => ∀ (ls : Array Slot), lv_has ls 3 [(2, .int v)] → W p l e R s m args below meth c s.heap [] 0 0 Q (F0 m 27 ls [])) ?_ FU v2_2 (And.left hok) ?_ ls (lv_sub hl [0, 1] rfl)
    · intro v hov kc ke
      obtain ⟨w2_2, rfl⟩ : ∃ z, z = v := ⟨_, rfl⟩
      have hok : ob_X11_namesake_2 μ w2_2 := hov
      change ∀ v', (b_X11_namesake_2 μ w2_2) = (true, v') → _ at kc
      change ∀ v', (b_X11_namesake_2 μ w2_2) = (false, v') → _ at ke
      have hf : (b_X11_namesake_2 μ w2_2) = (b_X11_namesake_2 μ w2_2) := rfl
      intro ls hl
      refine lv_iload_n hx hb dX11_namesake_2 rfl (lv_at hl 1 rfl) ?_
      refine lv_iconst (v := (-1)) hx hb dX11_namesake_3 (by decide) ?_
      refine lv_icmp_eq (tgt := 27) hx hb dX11_namesake_4 (by decide) (fun c_1 => ?_) (fun c_1 => ?_)
      · have hf := hf.trans (if_pos c_1)
        have hok := oif_pos hok c_1
        exact ke w2_2 hf ls (lv_sub hl [1] rfl)
      · have hf := hf.trans (if_neg c_1)
        have hok := oif_neg hok c_1
        refine lv_aload_n hx hb dX11_namesake_7 rfl (lv_at hl 0 rfl) ?_
        refine mg_names C hM dX11_namesake_8 ?_
        refine lv_iload_n hx hb dX11_namesake_11 rfl (lv_at hl 1 rfl) ?_
        have ok_2 := And.left hok
        have hok := And.right hok
        refine ma_names C hM ok_2 dX11_namesake_12 ?_
        refine lv_iconst (v := (-1)) hx hb dX11_namesake_13 (by decide) ?_
        refine lv_icmp_ne (tgt := 27) hx hb dX11_namesake_14 (by decide) (fun c_3 => ?_) (fun c_3 => ?_)
        · have hf := hf.trans (if_neg c_3)
          have hok := oif_neg hok c_3
          exact ke w2_2 hf ls (lv_sub hl [1] rfl)
        · have hf := hf.trans (if_pos c_3)
          have hok := oif_pos hok c_3
          refine lv_aload_n hx hb dX11_namesake_17 rfl (lv_at hl 0 rfl) ?_
          refine mg_cutFrom C hM dX11_namesake_18 ?_
          refine lv_iload_n hx hb dX11_namesake_21 rfl (lv_at hl 1 rfl) ?_
          have ok_4 := And.left hok
          have hok := And.right hok
          refine ma_cutFrom C hM ok_4 dX11_namesake_22 ?_
          refine lv_istore_n (lv' := [(2, .int (mi μ 54 (ix w2_2))), (0, .ref mo)]) hx hb dX11_namesake_23 rfl hl (by decide) rfl (fun ls hl => ?_)
          refine lv_goto (tgt := 2) hx hb dX11_namesake_24 (by decide) ?_
          exact kc (mi μ 54 (ix w2_2)) hf ls (lv_sub hl [1, 0] rfl)
    · have hok := And.right hok
      intro ls hl
      exact J_27 (itr (s_X11_namesake_2 μ) FU v2_2) hf ls (lv_sub hl [0] rfl)
  refine lv_iload_n hx hb dX11_namesake_0 rfl (lv_at hl 1 rfl) ?_
  refine lv_istore_n (lv' := [(2, .int p1), (0, .ref mo), (1, .int p1)]) hx hb dX11_namesake_1 rfl hl (by decide) rfl (fun ls hl => ?_)
  exact J_2 p1 hf hok ls (lv_sub hl [1, 0] rfl)
def f_X11_stone_28 (μ : MS) (p1 : Int32) (p2 : Int32) (t0_28 : Int32) : Int32 × MS := (if t0_28 ≤ 0 then (if p2 = 0 then ((mi μ 50 (ix p1)), (mI μ 0 0 t0_28)) else (if p2 = 1 then ((mi μ 51 (ix p1)), (mI μ 0 0 t0_28)) else (if p2 = 2 then ((mi μ 52 (ix p1)), (mI μ 0 0 t0_28)) else (if p2 = 3 then ((mi μ 53 (ix p1)), (mI μ 0 0 t0_28)) else (if p2 = 4 then ((mi μ 54 (ix p1)), (mI μ 0 0 t0_28)) else (if p2 = 5 then (if (f_X11_namesake (mI μ 0 0 t0_28) p1) = (-1) then ((-1), (mI μ 0 0 t0_28)) else ((mi μ 60 (ix (f_X11_namesake (mI μ 0 0 t0_28) p1))), (mI μ 0 0 t0_28))) else (if p2 = 6 then (if (f_X11_namesake (mI μ 0 0 t0_28) p1) = (-1) then (0, (mI μ 0 0 t0_28)) else (if (mi μ 61 (ix (f_X11_namesake (mI μ 0 0 t0_28) p1))) = 0 then (0, (mI μ 0 0 t0_28)) else (1, (mI μ 0 0 t0_28)))) else ((mi μ 55 (ix p1)), (mI μ 0 0 t0_28))))))))) else (0, (mI μ 0 0 t0_28)))
def of_X11_stone_28 (μ : MS) (p1 : Int32) (p2 : Int32) (t0_28 : Int32) : Prop := (oif (t0_28 ≤ 0) (of_X11_namesake (mI μ 0 0 t0_28) p1 ∧ (oif (p2 = 0) (vp_in p1 40 ∧ True) (oif (p2 = 1) (vp_in p1 40 ∧ True) (oif (p2 = 2) (vp_in p1 40 ∧ True) (oif (p2 = 3) (vp_in p1 40 ∧ True) (oif (p2 = 4) (vp_in p1 40 ∧ True) (oif (p2 = 5) (oif ((f_X11_namesake (mI μ 0 0 t0_28) p1) = (-1)) True (vp_in (f_X11_namesake (mI μ 0 0 t0_28) p1) 40 ∧ True)) (oif (p2 = 6) (oif ((f_X11_namesake (mI μ 0 0 t0_28) p1) = (-1)) True (vp_in (f_X11_namesake (mI μ 0 0 t0_28) p1) 40 ∧ True)) (vp_in p1 40 ∧ True))))))))) True)
def f_X11_stone (μ : MS) (p1 : Int32) (p2 : Int32) : Int32 × MS := (if (f_X11_isStone μ p1) = 0 then (f_X11_stone_28 μ p1 p2 1) else (if (f_X11_isIn p2 0 7) = 0 then (f_X11_stone_28 μ p1 p2 2) else (f_X11_stone_28 μ p1 p2 0)))
def of_X11_stone (μ : MS) (p1 : Int32) (p2 : Int32) : Prop := (of_X11_isStone μ p1 ∧ (oif ((f_X11_isStone μ p1) = 0) (of_X11_stone_28 μ p1 p2 1) (oif ((f_X11_isIn p2 0 7) = 0) (of_X11_stone_28 μ p1 p2 2) (of_X11_stone_28 μ p1 p2 0))))
set_option maxHeartbeats 4000000 in
set_option maxRecDepth 100000 in
theorem k_X11_stone (l : Launch) (D : va_G) (a : Nat → ClassId) (mo : Nat) (μ : MS) (p1 : Int32) (p2 : Int32) (hok : of_X11_stone μ p1 p2) : KM l D a mo yX11_stone cX11_stone 4 ((some .int)) 2 43 [.int p1, .int p2] μ (some (.int (f_X11_stone μ p1 p2).1)) (f_X11_stone μ p1 p2).2 := by
  refine goMi (by decide +kernel) (Nat.le_of_ble_eq_true rfl) ?_
  intro p e s m args below meth c ls R Q hRf hRl C hl hB
  obtain ⟨hM, ret⟩ := hB
  have hl : lv_has ls 4 [(0, .ref mo), (1, .int p1), (2, .int p2)] := hl
  have hx := C.1.1
  have hb := C.1.2.1
  have hts := C.1.2.2.2.2
  have hown := C.1.2.2.2.1
  have hf : (f_X11_stone μ p1 p2) = (f_X11_stone μ p1 p2) := rfl
  have J_28 : ∀ (t0_28 : Int32), (f_X11_stone μ p1 p2) = f_X11_stone_28 μ p1 p2 t0_28 → of_X11_stone_28 μ p1 p2 t0_28 → ∀ (ls : Array Slot), lv_has ls 4 [(0, .ref mo), (1, .int p1), (2, .int p2)] → W p l e R s m args below meth c s.heap [] 0 0 Q (F0 m 28 ls [.int t0_28, .ref mo]) := by
    intro t0_28 hf hok ls hl
    refine mp_thrown C hM dX11_stone_28 (fun H locs hM => ?_)
    refine lv_aload_n hx hb dX11_stone_31 rfl (lv_at hl 0 rfl) ?_
    refine mg_thrown C hM dX11_stone_32 ?_
    refine lv_if_le (tgt := 40) hx hb dX11_stone_35 (by decide) (fun c_4 => ?_) (fun c_4 => ?_)
    · have hf := hf.trans (if_pos c_4)
      have hok := oif_pos hok c_4
      refine lv_aload_n hx hb dX11_stone_40 rfl (lv_at hl 0 rfl) ?_
      refine lv_iload_n hx hb dX11_stone_41 rfl (lv_at hl 1 rfl) ?_
      have ok_5 := And.left hok
      have hok := And.right hok
      refine cc_R (av := [.int p1]) C hM (k_X11_namesake l D a mo (mI μ 0 0 t0_28) p1 ok_5) cw_X11_323 (okR_of hRf hRl (Nat.le_of_ble_eq_true rfl) (Nat.le_of_ble_eq_true rfl)) rfl rfl hl.1 (Nat.le_of_ble_eq_true rfl) (Nat.zero_le _) (Nat.zero_le _) dX11_stone_42 ?_
      refine lv_istore_n (lv' := [(3, .int (f_X11_namesake (mI μ 0 0 t0_28) p1)), (0, .ref mo), (1, .int p1), (2, .int p2)]) hx hb dX11_stone_45 rfl hl (by decide) rfl (fun ls hl => ?_)
      refine lv_iload_n hx hb dX11_stone_46 rfl (lv_at hl 3 rfl) ?_
      by_cases c_6 : p2 = 0
      · have hf := hf.trans (if_pos c_6)
        have hok := oif_pos hok c_6
        refine sw_in (tgt := 88) hx hb dX11_stone_47 c_6 (by decide) (by decide) rfl (by decide) ?_
        refine lv_aload_n hx hb dX11_stone_88 rfl (lv_at hl 1 rfl) ?_
        refine mg_weights C hM dX11_stone_89 ?_
        refine lv_iload_n hx hb dX11_stone_92 rfl (lv_at hl 2 rfl) ?_
        have ok_7 := And.left hok
        have hok := And.right hok
        refine ma_weights C hM ok_7 dX11_stone_93 ?_
        exact ret _ _ _ _ _ _ hM dX11_stone_94 hf
      · have hf := hf.trans (if_neg c_6)
        have hok := oif_neg hok c_6
        by_cases c_8 : p2 = 1
        · have hf := hf.trans (if_pos c_8)
          have hok := oif_pos hok c_8
          refine sw_in (tgt := 95) hx hb dX11_stone_47 c_8 (by decide) (by decide) rfl (by decide) ?_
          refine lv_aload_n hx hb dX11_stone_95 rfl (lv_at hl 1 rfl) ?_
          refine mg_owners C hM dX11_stone_96 ?_
          refine lv_iload_n hx hb dX11_stone_99 rfl (lv_at hl 2 rfl) ?_
          have ok_9 := And.left hok
          have hok := And.right hok
          refine ma_owners C hM ok_9 dX11_stone_100 ?_
          exact ret _ _ _ _ _ _ hM dX11_stone_101 hf
        · have hf := hf.trans (if_neg c_8)
          have hok := oif_neg hok c_8
          by_cases c_10 : p2 = 2
          · have hf := hf.trans (if_pos c_10)
            have hok := oif_pos hok c_10
            refine sw_in (tgt := 102) hx hb dX11_stone_47 c_10 (by decide) (by decide) rfl (by decide) ?_
            refine lv_aload_n hx hb dX11_stone_102 rfl (lv_at hl 1 rfl) ?_
            refine mg_where C hM dX11_stone_103 ?_
            refine lv_iload_n hx hb dX11_stone_106 rfl (lv_at hl 2 rfl) ?_
            have ok_11 := And.left hok
            have hok := And.right hok
            refine ma_where C hM ok_11 dX11_stone_107 ?_
            exact ret _ _ _ _ _ _ hM dX11_stone_108 hf
          · have hf := hf.trans (if_neg c_10)
            have hok := oif_neg hok c_10
            by_cases c_12 : p2 = 3
            · have hf := hf.trans (if_pos c_12)
              have hok := oif_pos hok c_12
              refine sw_in (tgt := 109) hx hb dX11_stone_47 c_12 (by decide) (by decide) rfl (by decide) ?_
              refine lv_aload_n hx hb dX11_stone_109 rfl (lv_at hl 1 rfl) ?_
              refine mg_laboratories C hM dX11_stone_110 ?_
              refine lv_iload_n hx hb dX11_stone_113 rfl (lv_at hl 2 rfl) ?_
              have ok_13 := And.left hok
              have hok := And.right hok
              refine ma_laboratories C hM ok_13 dX11_stone_114 ?_
              exact ret _ _ _ _ _ _ hM dX11_stone_115 hf
            · have hf := hf.trans (if_neg c_12)
              have hok := oif_neg hok c_12
              by_cases c_14 : p2 = 4
              · have hf := hf.trans (if_pos c_14)
                have hok := oif_pos hok c_14
                refine sw_in (tgt := 116) hx hb dX11_stone_47 c_14 (by decide) (by decide) rfl (by decide) ?_
                refine lv_aload_n hx hb dX11_stone_116 rfl (lv_at hl 1 rfl) ?_
                refine mg_cutFrom C hM dX11_stone_117 ?_
                refine lv_iload_n hx hb dX11_stone_120 rfl (lv_at hl 2 rfl) ?_
                have ok_15 := And.left hok
                have hok := And.right hok
                refine ma_cutFrom C hM ok_15 dX11_stone_121 ?_
                exact ret _ _ _ _ _ _ hM dX11_stone_122 hf
              · have hf := hf.trans (if_neg c_14)
                have hok := oif_neg hok c_14
                by_cases c_16 : p2 = 5
                · have hf := hf.trans (if_pos c_16)
                  have hok := oif_pos hok c_16
                  refine sw_in (tgt := 123) hx hb dX11_stone_47 c_16 (by decide) (by decide) rfl (by decide) ?_
                  refine lv_iload_n hx hb dX11_stone_123 rfl (lv_at hl 0 rfl) ?_
                  refine lv_iconst (v := (-1)) hx hb dX11_stone_124 (by decide) ?_
                  refine lv_icmp_ne (tgt := 132) hx hb dX11_stone_125 (by decide) (fun c_17 => ?_) (fun c_17 => ?_)
                  · have hf := hf.trans (if_neg c_17)
                    have hok := oif_neg hok c_17
                    refine lv_aload_n hx hb dX11_stone_132 rfl (lv_at hl 1 rfl) ?_
                    refine mg_names C hM dX11_stone_133 ?_
                    refine lv_iload_n hx hb dX11_stone_136 rfl (lv_at hl 0 rfl) ?_
                    have ok_18 := And.left hok
                    have hok := And.right hok
                    refine ma_names C hM ok_18 dX11_stone_137 ?_
                    exact ret _ _ _ _ _ _ hM dX11_stone_138 hf
                  · have hf := hf.trans (if_pos c_17)
                    have hok := oif_pos hok c_17
                    refine lv_iconst (v := (-1)) hx hb dX11_stone_128 (by decide) ?_
                    refine lv_goto (tgt := 138) hx hb dX11_stone_129 (by decide) ?_
                    exact ret _ _ _ _ _ _ hM dX11_stone_138 hf
                · have hf := hf.trans (if_neg c_16)
                  have hok := oif_neg hok c_16
                  by_cases c_19 : p2 = 6
                  · have hf := hf.trans (if_pos c_19)
                    have hok := oif_pos hok c_19
                    refine sw_in (tgt := 139) hx hb dX11_stone_47 c_19 (by decide) (by decide) rfl (by decide) ?_
                    refine lv_iload_n hx hb dX11_stone_139 rfl (lv_at hl 0 rfl) ?_
                    refine lv_iconst (v := (-1)) hx hb dX11_stone_140 (by decide) ?_
                    refine lv_icmp_eq (tgt := 157) hx hb dX11_stone_141 (by decide) (fun c_20 => ?_) (fun c_20 => ?_)
                    · have hf := hf.trans (if_pos c_20)
                      have hok := oif_pos hok c_20
                      refine lv_iconst (v := 0) hx hb dX11_stone_157 (by decide) ?_
                      exact ret _ _ _ _ _ _ hM dX11_stone_158 hf
                    · have hf := hf.trans (if_neg c_20)
                      have hok := oif_neg hok c_20
                      refine lv_aload_n hx hb dX11_stone_144 rfl (lv_at hl 1 rfl) ?_
                      refine mg_areDoubtful C hM dX11_stone_145 ?_
                      refine lv_iload_n hx hb dX11_stone_148 rfl (lv_at hl 0 rfl) ?_
                      have ok_21 := And.left hok
                      have hok := And.right hok
                      refine ma_areDoubtful C hM ok_21 dX11_stone_149 ?_
                      refine lv_if_eq (tgt := 157) hx hb dX11_stone_150 (by decide) (fun c_22 => ?_) (fun c_22 => ?_)
                      · have hf := hf.trans (if_pos c_22)
                        refine lv_iconst (v := 0) hx hb dX11_stone_157 (by decide) ?_
                        exact ret _ _ _ _ _ _ hM dX11_stone_158 hf
                      · have hf := hf.trans (if_neg c_22)
                        refine lv_iconst (v := 1) hx hb dX11_stone_153 (by decide) ?_
                        refine lv_goto (tgt := 158) hx hb dX11_stone_154 (by decide) ?_
                        exact ret _ _ _ _ _ _ hM dX11_stone_158 hf
                  · have hf := hf.trans (if_neg c_19)
                    have hok := oif_neg hok c_19
                    refine lv_tableOut (tgt := 159) hx hb dX11_stone_47 (by have e0 := lv_neT c_6 (a := 0) (by decide); have e1 := lv_neT c_8 (a := 1) (by decide); have e2 := lv_neT c_10 (a := 2) (by decide); have e3 := lv_neT c_12 (a := 3) (by decide); have e4 := lv_neT c_14 (a := 4) (by decide); have e5 := lv_neT c_16 (a := 5) (by decide); have e6 := lv_neT c_19 (a := 6) (by decide); omega) (by decide) ?_
                    refine lv_aload_n hx hb dX11_stone_159 rfl (lv_at hl 1 rfl) ?_
                    refine mg_losses C hM dX11_stone_160 ?_
                    refine lv_iload_n hx hb dX11_stone_163 rfl (lv_at hl 2 rfl) ?_
                    have ok_23 := And.left hok
                    have hok := And.right hok
                    refine ma_losses C hM ok_23 dX11_stone_164 ?_
                    exact ret _ _ _ _ _ _ hM dX11_stone_165 hf
    · have hf := hf.trans (if_neg c_4)
      have hok := oif_neg hok c_4
      refine lv_iconst (v := 0) hx hb dX11_stone_38 (by decide) ?_
      exact ret _ _ _ _ _ _ hM dX11_stone_39 hf
  refine lv_aload_n hx hb dX11_stone_0 rfl (lv_at hl 0 rfl) ?_
  refine lv_aload_n hx hb dX11_stone_1 rfl (lv_at hl 0 rfl) ?_
  refine lv_iload_n hx hb dX11_stone_2 rfl (lv_at hl 1 rfl) ?_
  have ok_1 := And.left hok
  have hok := And.right hok
  refine cc_R (av := [.int p1]) C hM (k_X11_isStone l D a mo μ p1 ok_1) cw_X11_314 (okR_of hRf hRl (Nat.le_of_ble_eq_true rfl) (Nat.le_of_ble_eq_true rfl)) rfl rfl hl.1 (Nat.le_of_ble_eq_true rfl) (Nat.zero_le _) (Nat.zero_le _) dX11_stone_3 ?_
  refine lv_if_ne (tgt := 13) hx hb dX11_stone_6 (by decide) (fun c_2 => ?_) (fun c_2 => ?_)
  · have hf := hf.trans (if_neg c_2)
    have hok := oif_neg hok c_2
    refine lv_iload_n hx hb dX11_stone_13 rfl (lv_at hl 2 rfl) ?_
    refine lv_iconst (v := 0) hx hb dX11_stone_14 (by decide) ?_
    refine lv_bipush (v := 7) hx hb dX11_stone_15 (by decide) ?_
    refine cc_S (av := [.int p2, .int 0, .int 7]) C (k_X11_isIn l D a p2 0 7) cw_X11_158 (okR_of hRf hRl (Nat.le_of_ble_eq_true rfl) (Nat.le_of_ble_eq_true rfl)) rfl rfl hl.1 (Nat.le_of_ble_eq_true rfl) (Nat.zero_le _) (Nat.zero_le _) dX11_stone_17 ?_
    refine lv_if_ne (tgt := 27) hx hb dX11_stone_20 (by decide) (fun c_3 => ?_) (fun c_3 => ?_)
    · have hf := hf.trans (if_neg c_3)
      have hok := oif_neg hok c_3
      refine lv_iconst (v := 0) hx hb dX11_stone_27 (by decide) ?_
      exact J_28 0 hf hok ls (lv_sub hl [0, 1, 2] rfl)
    · have hf := hf.trans (if_pos c_3)
      have hok := oif_pos hok c_3
      refine lv_iconst (v := 2) hx hb dX11_stone_23 (by decide) ?_
      refine lv_goto (tgt := 28) hx hb dX11_stone_24 (by decide) ?_
      exact J_28 2 hf hok ls (lv_sub hl [0, 1, 2] rfl)
  · have hf := hf.trans (if_pos c_2)
    have hok := oif_pos hok c_2
    refine lv_iconst (v := 1) hx hb dX11_stone_9 (by decide) ?_
    refine lv_goto (tgt := 28) hx hb dX11_stone_10 (by decide) ?_
    exact J_28 1 hf hok ls (lv_sub hl [0, 1, 2] rfl)
def b_X11_isCutFrom_2 (p2 : Int32) (μ : MS) (w3_2 : Int32) : Bool × (Int32) := (if w3_2 = (-1) then (false, w3_2) else (if w3_2 = p2 then (false, w3_2) else (true, (mi μ 54 (ix w3_2)))))
def ob_X11_isCutFrom_2 (p2 : Int32) (μ : MS) (w3_2 : Int32) : Prop := (oif (w3_2 = (-1)) True (oif (w3_2 = p2) True (vp_in w3_2 40 ∧ True)))
def s_X11_isCutFrom_2 (p2 : Int32) (μ : MS) (v : Int32) : Bool × (Int32) := b_X11_isCutFrom_2 p2 μ v
def os_X11_isCutFrom_2 (p2 : Int32) (μ : MS) (v : Int32) : Prop := ob_X11_isCutFrom_2 p2 μ v
def f_X11_isCutFrom_22 (μ : MS) (p1 : Int32) (p2 : Int32) (v3_22 : Int32) : Int32 := (if v3_22 = p2 then 1 else 0)
def f_X11_isCutFrom_2 (μ : MS) (p1 : Int32) (p2 : Int32) (v3_2 : Int32) : Int32 := (f_X11_isCutFrom_22 μ p1 p2 (itr (s_X11_isCutFrom_2 p2 μ) FU v3_2))
def of_X11_isCutFrom_2 (μ : MS) (p1 : Int32) (p2 : Int32) (v3_2 : Int32) : Prop := (ito (s_X11_isCutFrom_2 p2 μ) (os_X11_isCutFrom_2 p2 μ) FU v3_2 ∧ True)
def f_X11_isCutFrom (μ : MS) (p1 : Int32) (p2 : Int32) : Int32 := (f_X11_isCutFrom_2 μ p1 p2 p1)
def of_X11_isCutFrom (μ : MS) (p1 : Int32) (p2 : Int32) : Prop := (of_X11_isCutFrom_2 μ p1 p2 p1)
set_option maxHeartbeats 4000000 in
set_option maxRecDepth 100000 in
theorem k_X11_isCutFrom (l : Launch) (D : va_G) (a : Nat → ClassId) (mo : Nat) (μ : MS) (p1 : Int32) (p2 : Int32) (hok : of_X11_isCutFrom μ p1 p2) : K0 l yX11_isCutFrom cX11_isCutFrom 4 ((some .boolean)) 0 0 [.ref mo, .int p1, .int p2] (BM D a mo μ) (.int (f_X11_isCutFrom μ p1 p2)) := by
  refine go0z (D := D) (a := a) (by decide +kernel) (fun _ h => h.1) (Nat.le_of_ble_eq_true rfl) ?_
  intro p e s m args below meth c ls R Q hRf hRl C hl hB
  obtain ⟨hB, ret⟩ := hB
  have hM : HM D a mo μ s.heap s.heap [] := ⟨hB.2, va_S.rf⟩
  have hl : lv_has ls 4 [(0, .ref mo), (1, .int p1), (2, .int p2)] := hl
  have hx := C.1.1
  have hb := C.1.2.1
  have hts := C.1.2.2.2.2
  have hown := C.1.2.2.2.1
  have hf : (f_X11_isCutFrom μ p1 p2) = (f_X11_isCutFrom μ p1 p2) := rfl
  have J_22 : ∀ (v3_22 : Int32), (f_X11_isCutFrom μ p1 p2) = f_X11_isCutFrom_22 μ p1 p2 v3_22 → ∀ (ls : Array Slot), lv_has ls 4 [(2, .int p2), (3, .int v3_22)] → W p l e R s m args below meth c s.heap [] 0 0 Q (F0 m 22 ls []) := by
    intro v3_22 hf ls hl
    refine lv_iload_n hx hb dX11_isCutFrom_22 rfl (lv_at hl 1 rfl) ?_
    refine lv_iload_n hx hb dX11_isCutFrom_23 rfl (lv_at hl 0 rfl) ?_
    refine lv_icmp_ne (tgt := 31) hx hb dX11_isCutFrom_24 (by decide) (fun c_4 => ?_) (fun c_4 => ?_)
    · have hf := hf.trans (if_neg c_4)
      refine lv_iconst (v := 0) hx hb dX11_isCutFrom_31 (by decide) ?_
      exact ret _ _ _ dX11_isCutFrom_32 (by unfold zb; decide) hf
    · have hf := hf.trans (if_pos c_4)
      refine lv_iconst (v := 1) hx hb dX11_isCutFrom_27 (by decide) ?_
      refine lv_goto (tgt := 32) hx hb dX11_isCutFrom_28 (by decide) ?_
      exact ret _ _ _ dX11_isCutFrom_32 (by unfold zb; decide) hf
  have J_2 : ∀ (v3_2 : Int32), (f_X11_isCutFrom μ p1 p2) = f_X11_isCutFrom_2 μ p1 p2 v3_2 → of_X11_isCutFrom_2 μ p1 p2 v3_2 → ∀ (ls : Array Slot), lv_has ls 4 [(0, .ref mo), (2, .int p2), (3, .int v3_2)] → W p l e R s m args below meth c s.heap [] 0 0 Q (F0 m 2 ls []) := by
    intro v3_2 hf hok ls hl
    refine itr_W (f := (s_X11_isCutFrom_2 p2 μ)) (o := (os_X11_isCutFrom_2 p2 μ)) (fun (v : Int32) => ∀ (ls : Array Slot), lv_has ls 4 [(0, .ref mo), (2, .int p2), (3, .int v)] → W p l e R s m args below meth c s.heap [] 0 0 Q (F0 m 2 ls [])) (fun (v : Int32) => ∀ (ls : Array Slot), lv_has ls 4 [(2, .int p2), (3, .int v)] → W p l e R s m args below meth c s.heap [] 0 0 Q (F0 m 22 ls [])) ?_ FU v3_2 (And.left hok) ?_ ls (lv_sub hl [0, 1, 2] rfl)
    · intro v hov kc ke
      obtain ⟨w3_2, rfl⟩ : ∃ z, z = v := ⟨_, rfl⟩
      have hok : ob_X11_isCutFrom_2 p2 μ w3_2 := hov
      change ∀ v', (b_X11_isCutFrom_2 p2 μ w3_2) = (true, v') → _ at kc
      change ∀ v', (b_X11_isCutFrom_2 p2 μ w3_2) = (false, v') → _ at ke
      have hf : (b_X11_isCutFrom_2 p2 μ w3_2) = (b_X11_isCutFrom_2 p2 μ w3_2) := rfl
      intro ls hl
      refine lv_iload_n hx hb dX11_isCutFrom_2 rfl (lv_at hl 2 rfl) ?_
      refine lv_iconst (v := (-1)) hx hb dX11_isCutFrom_3 (by decide) ?_
      refine lv_icmp_eq (tgt := 22) hx hb dX11_isCutFrom_4 (by decide) (fun c_1 => ?_) (fun c_1 => ?_)
      · have hf := hf.trans (if_pos c_1)
        have hok := oif_pos hok c_1
        exact ke w3_2 hf ls (lv_sub hl [1, 2] rfl)
      · have hf := hf.trans (if_neg c_1)
        have hok := oif_neg hok c_1
        refine lv_iload_n hx hb dX11_isCutFrom_7 rfl (lv_at hl 2 rfl) ?_
        refine lv_iload_n hx hb dX11_isCutFrom_8 rfl (lv_at hl 1 rfl) ?_
        refine lv_icmp_eq (tgt := 22) hx hb dX11_isCutFrom_9 (by decide) (fun c_2 => ?_) (fun c_2 => ?_)
        · have hf := hf.trans (if_pos c_2)
          have hok := oif_pos hok c_2
          exact ke w3_2 hf ls (lv_sub hl [1, 2] rfl)
        · have hf := hf.trans (if_neg c_2)
          have hok := oif_neg hok c_2
          refine lv_aload_n hx hb dX11_isCutFrom_12 rfl (lv_at hl 0 rfl) ?_
          refine mg_cutFrom C hM dX11_isCutFrom_13 ?_
          refine lv_iload_n hx hb dX11_isCutFrom_16 rfl (lv_at hl 2 rfl) ?_
          have ok_3 := And.left hok
          have hok := And.right hok
          refine ma_cutFrom C hM ok_3 dX11_isCutFrom_17 ?_
          refine lv_istore_n (lv' := [(3, .int (mi μ 54 (ix w3_2))), (0, .ref mo), (2, .int p2)]) hx hb dX11_isCutFrom_18 rfl hl (by decide) rfl (fun ls hl => ?_)
          refine lv_goto (tgt := 2) hx hb dX11_isCutFrom_19 (by decide) ?_
          exact kc (mi μ 54 (ix w3_2)) hf ls (lv_sub hl [1, 2, 0] rfl)
    · have hok := And.right hok
      intro ls hl
      exact J_22 (itr (s_X11_isCutFrom_2 p2 μ) FU v3_2) hf ls (lv_sub hl [0, 1] rfl)
  refine lv_iload_n hx hb dX11_isCutFrom_0 rfl (lv_at hl 1 rfl) ?_
  refine lv_istore_n (lv' := [(3, .int p1), (0, .ref mo), (1, .int p1), (2, .int p2)]) hx hb dX11_isCutFrom_1 rfl hl (by decide) rfl (fun ls hl => ?_)
  exact J_2 p1 hf hok ls (lv_sub hl [1, 3, 0] rfl)
def f_X11_whole_l21_63 (p1 : Int32) (μ_21 : MS) (w2_21 : Int32) (w3_21 : Int32) (v3_63 : Int32) (t0_63 : Int32) (t1_63 : Int32) : Bool × (Int32 × Int32) := (true, ((t1_63 + t0_63), (v3_63 + 1)))
def b_X11_whole_21 (p1 : Int32) (μ_21 : MS) (w2_21 : Int32) (w3_21 : Int32) : Bool × (Int32 × Int32) := (if (mi μ_21 46 0) ≤ w3_21 then (false, (w2_21, w3_21)) else (if (mi μ_21 0 0) = 0 then (if (f_X11_isCutFrom μ_21 w3_21 p1) = 0 then (f_X11_whole_l21_63 p1 μ_21 w2_21 w3_21 w3_21 0 w2_21) else (f_X11_whole_l21_63 p1 μ_21 w2_21 w3_21 w3_21 ((mi μ_21 50 (ix w3_21)) + (mi μ_21 55 (ix w3_21))) w2_21)) else (false, (w2_21, w3_21))))
def ob_X11_whole_21 (p1 : Int32) (μ_21 : MS) (w2_21 : Int32) (w3_21 : Int32) : Prop := (oif ((mi μ_21 46 0) ≤ w3_21) True (oif ((mi μ_21 0 0) = 0) (of_X11_isCutFrom μ_21 w3_21 p1 ∧ (oif ((f_X11_isCutFrom μ_21 w3_21 p1) = 0) True (vp_in w3_21 40 ∧ (vp_in w3_21 40 ∧ True)))) True))
def s_X11_whole_21 (p1 : Int32) (μ_21 : MS) (v : Int32 × Int32) : Bool × (Int32 × Int32) := b_X11_whole_21 p1 μ_21 v.1 v.2
def os_X11_whole_21 (p1 : Int32) (μ_21 : MS) (v : Int32 × Int32) : Prop := ob_X11_whole_21 p1 μ_21 v.1 v.2
def f_X11_whole_71 (μ : MS) (p1 : Int32) (v2_71 : Int32) (μ_71 : MS) : Int32 × MS := (v2_71, μ_71)
def f_X11_whole_21 (μ : MS) (p1 : Int32) (v2_21 : Int32) (v3_21 : Int32) (μ_21 : MS) : Int32 × MS := (f_X11_whole_71 μ p1 ((itr (s_X11_whole_21 p1 μ_21) FU (v2_21, v3_21)).1) μ_21)
def of_X11_whole_21 (μ : MS) (p1 : Int32) (v2_21 : Int32) (v3_21 : Int32) (μ_21 : MS) : Prop := (ito (s_X11_whole_21 p1 μ_21) (os_X11_whole_21 p1 μ_21) FU (v2_21, v3_21) ∧ True)
def f_X11_whole_14 (μ : MS) (p1 : Int32) (t0_14 : Int32) : Int32 × MS := (f_X11_whole_21 μ p1 0 p1 (mI μ 0 0 t0_14))
def of_X11_whole_14 (μ : MS) (p1 : Int32) (t0_14 : Int32) : Prop := (of_X11_whole_21 μ p1 0 p1 (mI μ 0 0 t0_14))
def f_X11_whole (μ : MS) (p1 : Int32) : Int32 × MS := (if (f_X11_isStone μ p1) = 0 then (f_X11_whole_14 μ p1 1) else (f_X11_whole_14 μ p1 0))
def of_X11_whole (μ : MS) (p1 : Int32) : Prop := (of_X11_isStone μ p1 ∧ (oif ((f_X11_isStone μ p1) = 0) (of_X11_whole_14 μ p1 1) (of_X11_whole_14 μ p1 0)))
set_option maxHeartbeats 4000000 in
set_option maxRecDepth 100000 in
theorem k_X11_whole (l : Launch) (D : va_G) (a : Nat → ClassId) (mo : Nat) (μ : MS) (p1 : Int32) (hok : of_X11_whole μ p1) : KM l D a mo yX11_whole cX11_whole 4 ((some .int)) 2 43 [.int p1] μ (some (.int (f_X11_whole μ p1).1)) (f_X11_whole μ p1).2 := by
  refine goMi (by decide +kernel) (Nat.le_of_ble_eq_true rfl) ?_
  intro p e s m args below meth c ls R Q hRf hRl C hl hB
  obtain ⟨hM, ret⟩ := hB
  have hl : lv_has ls 4 [(0, .ref mo), (1, .int p1)] := hl
  have hx := C.1.1
  have hb := C.1.2.1
  have hts := C.1.2.2.2.2
  have hown := C.1.2.2.2.1
  have hf : (f_X11_whole μ p1) = (f_X11_whole μ p1) := rfl
  have J_71 : ∀ (v2_71 : Int32) (μ_71 : MS), (f_X11_whole μ p1) = f_X11_whole_71 μ p1 v2_71 μ_71 → ∀ (H : Heap) (locs : List Loc) (ls : Array Slot), HM D a mo μ_71 s.heap H locs → lv_has ls 4 [(2, .int v2_71)] → W p l e R s m args below meth c H locs 0 0 Q (F0 m 71 ls []) := by
    intro v2_71 μ_71 hf H locs ls hM hl
    refine lv_iload_n hx hb dX11_whole_71 rfl (lv_at hl 0 rfl) ?_
    exact ret _ _ _ _ _ _ hM dX11_whole_72 hf
  have J_21 : ∀ (v2_21 : Int32) (v3_21 : Int32) (μ_21 : MS), (f_X11_whole μ p1) = f_X11_whole_21 μ p1 v2_21 v3_21 μ_21 → of_X11_whole_21 μ p1 v2_21 v3_21 μ_21 → ∀ (H : Heap) (locs : List Loc) (ls : Array Slot), HM D a mo μ_21 s.heap H locs → lv_has ls 4 [(0, .ref mo), (1, .int p1), (2, .int v2_21), (3, .int v3_21)] → W p l e R s m args below meth c H locs 0 0 Q (F0 m 21 ls []) := by
    intro v2_21 v3_21 μ_21 hf hok H locs ls hM hl
    refine itr_W (f := (s_X11_whole_21 p1 μ_21)) (o := (os_X11_whole_21 p1 μ_21)) (fun (v : Int32 × Int32) => ∀ (ls : Array Slot), lv_has ls 4 [(0, .ref mo), (1, .int p1), (2, .int v.1), (3, .int v.2)] → W p l e R s m args below meth c H locs 0 0 Q (F0 m 21 ls [])) (fun (v : Int32 × Int32) => ∀ (ls : Array Slot), lv_has ls 4 [(2, .int v.1)] → W p l e R s m args below meth c H locs 0 0 Q (F0 m 71 ls [])) ?_ FU (v2_21, v3_21) (And.left hok) ?_ ls (lv_sub hl [0, 1, 2, 3] rfl)
    · intro v hov kc ke
      obtain ⟨w2_21, w3_21⟩ := v
      have hok : ob_X11_whole_21 p1 μ_21 w2_21 w3_21 := hov
      change ∀ v', (b_X11_whole_21 p1 μ_21 w2_21 w3_21) = (true, v') → _ at kc
      change ∀ v', (b_X11_whole_21 p1 μ_21 w2_21 w3_21) = (false, v') → _ at ke
      have hf : (b_X11_whole_21 p1 μ_21 w2_21 w3_21) = (b_X11_whole_21 p1 μ_21 w2_21 w3_21) := rfl
      intro ls hl
      have J_l21_63 : ∀ (v3_63 : Int32) (t0_63 : Int32) (t1_63 : Int32), (b_X11_whole_21 p1 μ_21 w2_21 w3_21) = f_X11_whole_l21_63 p1 μ_21 w2_21 w3_21 v3_63 t0_63 t1_63 → ∀ (ls : Array Slot), lv_has ls 4 [(0, .ref mo), (1, .int p1), (3, .int v3_63)] → W p l e R s m args below meth c H locs 0 0 Q (F0 m 63 ls [.int t0_63, .int t1_63]) := by
        intro v3_63 t0_63 t1_63 hf ls hl
        refine lv_iadd hx hb dX11_whole_63 ?_
        refine lv_istore_n (lv' := [(2, .int (t1_63 + t0_63)), (0, .ref mo), (1, .int p1), (3, .int v3_63)]) hx hb dX11_whole_64 rfl hl (by decide) rfl (fun ls hl => ?_)
        refine lv_iinc (v := (v3_63 + 1)) (lv' := [(3, .int (v3_63 + 1)), (2, .int (t1_63 + t0_63)), (0, .ref mo), (1, .int p1)]) hx hb dX11_whole_65 hl (k := 3) rfl rfl (by decide) rfl (fun ls hl => ?_)
        refine lv_goto (tgt := 21) hx hb dX11_whole_68 (by decide) ?_
        exact kc ((t1_63 + t0_63), (v3_63 + 1)) hf ls (lv_sub hl [2, 3, 1, 0] rfl)
      refine lv_iload_n hx hb dX11_whole_21 rfl (lv_at hl 3 rfl) ?_
      refine lv_aload_n hx hb dX11_whole_22 rfl (lv_at hl 0 rfl) ?_
      refine mg_stones C hM dX11_whole_23 ?_
      refine lv_icmp_ge (tgt := 71) hx hb dX11_whole_26 (by decide) (fun c_3 => ?_) (fun c_3 => ?_)
      · have hf := hf.trans (if_pos c_3)
        have hok := oif_pos hok c_3
        exact ke (w2_21, w3_21) hf ls (lv_sub hl [2] rfl)
      · have hf := hf.trans (if_neg c_3)
        have hok := oif_neg hok c_3
        refine lv_aload_n hx hb dX11_whole_29 rfl (lv_at hl 0 rfl) ?_
        refine mg_thrown C hM dX11_whole_30 ?_
        refine lv_if_ne (tgt := 71) hx hb dX11_whole_33 (by decide) (fun c_4 => ?_) (fun c_4 => ?_)
        · have hf := hf.trans (if_neg c_4)
          have hok := oif_neg hok c_4
          exact ke (w2_21, w3_21) hf ls (lv_sub hl [2] rfl)
        · have hf := hf.trans (if_pos c_4)
          have hok := oif_pos hok c_4
          refine lv_iload_n hx hb dX11_whole_36 rfl (lv_at hl 2 rfl) ?_
          refine lv_aload_n hx hb dX11_whole_37 rfl (lv_at hl 0 rfl) ?_
          refine lv_iload_n hx hb dX11_whole_38 rfl (lv_at hl 3 rfl) ?_
          refine lv_iload_n hx hb dX11_whole_39 rfl (lv_at hl 1 rfl) ?_
          have ok_5 := And.left hok
          have hok := And.right hok
          refine cc_R (av := [.int w3_21, .int p1]) C hM (k_X11_isCutFrom l D a mo μ_21 w3_21 p1 ok_5) cw_X11_326 (okR_of hRf hRl (Nat.le_of_ble_eq_true rfl) (Nat.le_of_ble_eq_true rfl)) rfl rfl hl.1 (Nat.le_of_ble_eq_true rfl) (Nat.zero_le _) (Nat.zero_le _) dX11_whole_40 ?_
          refine lv_if_eq (tgt := 62) hx hb dX11_whole_43 (by decide) (fun c_6 => ?_) (fun c_6 => ?_)
          · have hf := hf.trans (if_pos c_6)
            have hok := oif_pos hok c_6
            refine lv_iconst (v := 0) hx hb dX11_whole_62 (by decide) ?_
            exact J_l21_63 w3_21 0 w2_21 hf ls (lv_sub hl [0, 1, 3] rfl)
          · have hf := hf.trans (if_neg c_6)
            have hok := oif_neg hok c_6
            refine lv_aload_n hx hb dX11_whole_46 rfl (lv_at hl 0 rfl) ?_
            refine mg_weights C hM dX11_whole_47 ?_
            refine lv_iload_n hx hb dX11_whole_50 rfl (lv_at hl 3 rfl) ?_
            have ok_7 := And.left hok
            have hok := And.right hok
            refine ma_weights C hM ok_7 dX11_whole_51 ?_
            refine lv_aload_n hx hb dX11_whole_52 rfl (lv_at hl 0 rfl) ?_
            refine mg_losses C hM dX11_whole_53 ?_
            refine lv_iload_n hx hb dX11_whole_56 rfl (lv_at hl 3 rfl) ?_
            have ok_8 := And.left hok
            have hok := And.right hok
            refine ma_losses C hM ok_8 dX11_whole_57 ?_
            refine lv_iadd hx hb dX11_whole_58 ?_
            refine lv_goto (tgt := 63) hx hb dX11_whole_59 (by decide) ?_
            exact J_l21_63 w3_21 ((mi μ_21 50 (ix w3_21)) + (mi μ_21 55 (ix w3_21))) w2_21 hf ls (lv_sub hl [0, 1, 3] rfl)
    · have hok := And.right hok
      intro ls hl
      exact J_71 ((itr (s_X11_whole_21 p1 μ_21) FU (v2_21, v3_21)).1) μ_21 hf _ _ ls hM (lv_sub hl [0] rfl)
  have J_14 : ∀ (t0_14 : Int32), (f_X11_whole μ p1) = f_X11_whole_14 μ p1 t0_14 → of_X11_whole_14 μ p1 t0_14 → ∀ (ls : Array Slot), lv_has ls 4 [(0, .ref mo), (1, .int p1)] → W p l e R s m args below meth c s.heap [] 0 0 Q (F0 m 14 ls [.int t0_14, .ref mo]) := by
    intro t0_14 hf hok ls hl
    refine mp_thrown C hM dX11_whole_14 (fun H locs hM => ?_)
    refine lv_iconst (v := 0) hx hb dX11_whole_17 (by decide) ?_
    refine lv_istore_n (lv' := [(2, .int 0), (0, .ref mo), (1, .int p1)]) hx hb dX11_whole_18 rfl hl (by decide) rfl (fun ls hl => ?_)
    refine lv_iload_n hx hb dX11_whole_19 rfl (lv_at hl 2 rfl) ?_
    refine lv_istore_n (lv' := [(3, .int p1), (2, .int 0), (0, .ref mo), (1, .int p1)]) hx hb dX11_whole_20 rfl hl (by decide) rfl (fun ls hl => ?_)
    exact J_21 0 p1 (mI μ 0 0 t0_14) hf hok _ _ ls hM (lv_sub hl [2, 3, 1, 0] rfl)
  refine lv_aload_n hx hb dX11_whole_0 rfl (lv_at hl 0 rfl) ?_
  refine lv_aload_n hx hb dX11_whole_1 rfl (lv_at hl 0 rfl) ?_
  refine lv_iload_n hx hb dX11_whole_2 rfl (lv_at hl 1 rfl) ?_
  have ok_1 := And.left hok
  have hok := And.right hok
  refine cc_R (av := [.int p1]) C hM (k_X11_isStone l D a mo μ p1 ok_1) cw_X11_314 (okR_of hRf hRl (Nat.le_of_ble_eq_true rfl) (Nat.le_of_ble_eq_true rfl)) rfl rfl hl.1 (Nat.le_of_ble_eq_true rfl) (Nat.zero_le _) (Nat.zero_le _) dX11_whole_3 ?_
  refine lv_if_eq (tgt := 13) hx hb dX11_whole_6 (by decide) (fun c_2 => ?_) (fun c_2 => ?_)
  · have hf := hf.trans (if_pos c_2)
    have hok := oif_pos hok c_2
    refine lv_iconst (v := 1) hx hb dX11_whole_13 (by decide) ?_
    exact J_14 1 hf hok ls (lv_sub hl [0, 1] rfl)
  · have hf := hf.trans (if_neg c_2)
    have hok := oif_neg hok c_2
    refine lv_iconst (v := 0) hx hb dX11_whole_9 (by decide) ?_
    refine lv_goto (tgt := 14) hx hb dX11_whole_10 (by decide) ?_
    exact J_14 0 hf hok ls (lv_sub hl [0, 1] rfl)
