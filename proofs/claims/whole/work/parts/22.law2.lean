theorem cmp_self (v : Int64) : lg_cmp v v = 0 := by unfold lg_cmp; simp
theorem cwh_camera : CWH 122 yL_camera cL_camera 6 [(0, 12, 15, 13), (0, 12, 19, 15)] 5 := ⟨q_311, q_312, q_50, q_313, ⟨by decide +kernel, by decide +kernel, by decide +kernel⟩⟩
theorem cwm_127 : CWV RL RX11 127 yX11_camera cX11_camera 5 ((some .int)) 3 := ⟨q_1384, q_1385, q_1386, q_62, q_1387, rfl, ⟨by decide +kernel, by decide +kernel, by decide +kernel⟩⟩
theorem cwm_128 : CWV RL RX11 128 yX11_thrown cX11_thrown 1 ((some .int)) 0 := ⟨q_1380, q_1381, q_1382, q_62, q_1383, rfl, ⟨by decide +kernel, by decide +kernel, by decide +kernel⟩⟩
theorem cwh_clock : CWH 132 yL_clock cL_clock 5 [(0, 10, 13, 21), (0, 10, 17, 13)] 4 := ⟨q_439, q_440, q_50, q_441, ⟨by decide +kernel, by decide +kernel, by decide +kernel⟩⟩
theorem cwm_135 : CWV RL RX11 135 yX11_clock cX11_clock 4 ((some .int)) 2 := ⟨q_1391, q_1392, q_1393, q_62, q_1394, rfl, ⟨by decide +kernel, by decide +kernel, by decide +kernel⟩⟩
theorem cwh_cloud : CWH 136 yL_cloud cL_cloud 5 [(0, 10, 13, 21), (0, 10, 17, 13), (0, 10, 21, 15)] 4 := ⟨q_581, q_582, q_50, q_583, ⟨by decide +kernel, by decide +kernel, by decide +kernel⟩⟩
theorem cwm_138 : CWV RL RX11 138 yX11_cloud cX11_cloud 6 ((some .int)) 2 := ⟨q_1399, q_1400, q_1401, q_62, q_1402, rfl, ⟨by decide +kernel, by decide +kernel, by decide +kernel⟩⟩
theorem cwh_begin : CWH 139 yL_begin cL_begin 7 [(0, 11, 14, 21), (0, 11, 18, 13), (0, 11, 22, 15)] 6 := ⟨q_621, q_622, q_50, q_623, ⟨by decide +kernel, by decide +kernel, by decide +kernel⟩⟩
theorem cwm_142 : CWV RL RX11 142 yX11_begin cX11_begin 7 none 5 := ⟨q_1410, q_1411, q_1412, q_62, q_1413, rfl, ⟨by decide +kernel, by decide +kernel, by decide +kernel⟩⟩
theorem cwh_end : CWH 143 yL_end cL_end 7 [(0, 14, 17, 13), (0, 14, 21, 15)] 6 := ⟨q_683, q_684, q_50, q_685, ⟨by decide +kernel, by decide +kernel, by decide +kernel⟩⟩
theorem cwm_146 : CWV RL RX11 146 yX11_end cX11_end 7 ((some .int)) 4 := ⟨q_1415, q_1416, q_1417, q_62, q_1418, rfl, ⟨by decide +kernel, by decide +kernel, by decide +kernel⟩⟩
theorem cwh_fireball : CWH 147 yL_fireball cL_fireball 4 [(0, 9, 12, 21)] 3 := ⟨q_697, q_698, q_50, q_699, ⟨by decide +kernel, by decide +kernel, by decide +kernel⟩⟩
theorem cwm_150 : CWV RL RX11 150 yX11_fireball cX11_fireball 2 ((some .int)) 1 := ⟨q_1422, q_1423, q_1424, q_62, q_1425, rfl, ⟨by decide +kernel, by decide +kernel, by decide +kernel⟩⟩
theorem cwh_fireballAnew : CWH 151 yL_fireballAnew cL_fireballAnew 4 [(0, 9, 12, 21)] 3 := ⟨q_709, q_710, q_50, q_711, ⟨by decide +kernel, by decide +kernel, by decide +kernel⟩⟩
theorem cwm_153 : CWV RL RX11 153 yX11_fireballAnew cX11_fireballAnew 2 ((some .int)) 1 := ⟨q_1459, q_1460, q_1461, q_62, q_1462, rfl, ⟨by decide +kernel, by decide +kernel, by decide +kernel⟩⟩
theorem cwh_fireballs : CWH 154 yL_fireballs cL_fireballs 4 [(0, 9, 12, 13)] 3 := ⟨q_720, q_721, q_50, q_722, ⟨by decide +kernel, by decide +kernel, by decide +kernel⟩⟩
theorem cwm_156 : CWV RL RX11 156 yX11_fireballs cX11_fireballs 4 ((some .int)) 1 := ⟨q_1463, q_1464, q_1465, q_62, q_1466, rfl, ⟨by decide +kernel, by decide +kernel, by decide +kernel⟩⟩
theorem cwh_told : CWH 157 yL_told cL_told 5 [(0, 9, 12, 21), (0, 9, 16, 13)] 4 := ⟨q_735, q_736, q_50, q_737, ⟨by decide +kernel, by decide +kernel, by decide +kernel⟩⟩
theorem cwm_159 : CWV RL RX11 159 yX11_told cX11_told 3 ((some .long)) 2 := ⟨q_1471, q_1472, q_1473, q_62, q_1474, rfl, ⟨by decide +kernel, by decide +kernel, by decide +kernel⟩⟩
theorem cwh_stream : CWH 160 yL_stream cL_stream 5 [(0, 17, 20, 21)] 4 := ⟨q_751, q_752, q_50, q_753, ⟨by decide +kernel, by decide +kernel, by decide +kernel⟩⟩
theorem cwm_162 : CWV RL RX11 162 yX11_stream cX11_stream 22 ((some .boolean)) 2 := ⟨q_1486, q_1487, q_1488, q_62, q_1489, rfl, ⟨by decide +kernel, by decide +kernel, by decide +kernel⟩⟩
theorem cwh_flux : CWH 163 yL_flux cL_flux 6 [(0, 12, 15, 13)] 5 := ⟨q_769, q_770, q_50, q_771, ⟨by decide +kernel, by decide +kernel, by decide +kernel⟩⟩
theorem cwm_165 : CWV RL RX11 165 yX11_flux cX11_flux 8 ((some .int)) 3 := ⟨q_1490, q_1491, q_1492, q_62, q_1493, rfl, ⟨by decide +kernel, by decide +kernel, by decide +kernel⟩⟩
theorem cwh_wind : CWH 166 yL_wind cL_wind 5 [(0, 7, 10, 13), (0, 7, 14, 15)] 4 := ⟨q_777, q_778, q_50, q_779, ⟨by decide +kernel, by decide +kernel, by decide +kernel⟩⟩
theorem cwm_169 : CWV RL RX11 169 yX11_wind cX11_wind 6 none 3 := ⟨q_1495, q_1496, q_1497, q_62, q_1498, rfl, ⟨by decide +kernel, by decide +kernel, by decide +kernel⟩⟩
theorem cwh_walk : CWH 170 yL_walk cL_walk 7 [(0, 13, 16, 21), (0, 13, 20, 13), (0, 13, 24, 15)] 6 := ⟨q_806, q_807, q_50, q_808, ⟨by decide +kernel, by decide +kernel, by decide +kernel⟩⟩
theorem cwm_172 : CWV RL RX11 172 yX11_walk cX11_walk 6 ((some .long)) 4 := ⟨q_1503, q_1504, q_1505, q_62, q_1506, rfl, ⟨by decide +kernel, by decide +kernel, by decide +kernel⟩⟩
theorem cwh_chance : CWH 173 yL_chance cL_chance 6 [(0, 11, 14, 21), (0, 11, 18, 13)] 5 := ⟨q_897, q_898, q_50, q_899, ⟨by decide +kernel, by decide +kernel, by decide +kernel⟩⟩
theorem cwm_175 : CWV RL RX11 175 yX11_chance cX11_chance 4 ((some .long)) 3 := ⟨q_1524, q_1525, q_1526, q_62, q_1527, rfl, ⟨by decide +kernel, by decide +kernel, by decide +kernel⟩⟩
theorem cwh_find : CWH 176 yL_find cL_find 8 [(0, 16, 19, 13), (0, 16, 23, 15)] 7 := ⟨q_904, q_905, q_50, q_906, ⟨by decide +kernel, by decide +kernel, by decide +kernel⟩⟩
theorem cwm_179 : CWV RL RX11 179 yX11_find cX11_find 8 ((some .int)) 5 := ⟨q_1528, q_1529, q_1530, q_62, q_1531, rfl, ⟨by decide +kernel, by decide +kernel, by decide +kernel⟩⟩
theorem cwh_fall : CWH 180 yL_fall cL_fall 4 [(0, 9, 12, 21)] 3 := ⟨q_990, q_991, q_50, q_992, ⟨by decide +kernel, by decide +kernel, by decide +kernel⟩⟩
theorem cwm_182 : CWV RL RX11 182 yX11_fall cX11_fall 2 ((some .int)) 1 := ⟨q_1540, q_1541, q_1542, q_62, q_1543, rfl, ⟨by decide +kernel, by decide +kernel, by decide +kernel⟩⟩
theorem cwh_minerals : CWH 183 yL_minerals cL_minerals 6 [(0, 9, 12, 21), (0, 9, 16, 13)] 5 := ⟨q_1006, q_1007, q_50, q_1008, ⟨by decide +kernel, by decide +kernel, by decide +kernel⟩⟩
theorem cwm_186 : CWV RL RX11 186 yX11_minerals cX11_minerals 6 none 4 := ⟨q_1552, q_1553, q_1554, q_62, q_1555, rfl, ⟨by decide +kernel, by decide +kernel, by decide +kernel⟩⟩
theorem cwh_rule : CWH 187 yL_rule cL_rule 5 [(0, 7, 10, 13)] 4 := ⟨q_1013, q_1014, q_50, q_1015, ⟨by decide +kernel, by decide +kernel, by decide +kernel⟩⟩
theorem cwm_189 : CWV RL RX11 189 yX11_rule cX11_rule 4 none 3 := ⟨q_1556, q_1557, q_1558, q_62, q_1559, rfl, ⟨by decide +kernel, by decide +kernel, by decide +kernel⟩⟩
theorem cwh_classOf : CWH 190 yL_classOf cL_classOf 5 [(0, 10, 13, 21), (0, 10, 17, 13)] 4 := ⟨q_1032, q_1033, q_50, q_1034, ⟨by decide +kernel, by decide +kernel, by decide +kernel⟩⟩
theorem cwm_192 : CWV RL RX11 192 yX11_classOf cX11_classOf 3 ((some .int)) 2 := ⟨q_1560, q_1561, q_1562, q_62, q_1563, rfl, ⟨by decide +kernel, by decide +kernel, by decide +kernel⟩⟩
theorem cwh_pair : CWH 193 yL_pair cL_pair 6 [(0, 19, 22, 21), (0, 19, 26, 13)] 5 := ⟨q_1051, q_1052, q_50, q_1053, ⟨by decide +kernel, by decide +kernel, by decide +kernel⟩⟩
theorem cwm_195 : CWV RL RX11 195 yX11_pair cX11_pair 10 ((some .boolean)) 3 := ⟨q_1568, q_1569, q_1570, q_62, q_1571, rfl, ⟨by decide +kernel, by decide +kernel, by decide +kernel⟩⟩
theorem cwh_cut : CWH 196 yL_cut cL_cut 6 [(0, 12, 15, 21), (0, 12, 19, 13), (0, 12, 23, 15)] 5 := ⟨q_1064, q_1065, q_50, q_1066, ⟨by decide +kernel, by decide +kernel, by decide +kernel⟩⟩
theorem cwm_198 : CWV RL RX11 198 yX11_cut cX11_cut 5 ((some .int)) 3 := ⟨q_1572, q_1573, q_1574, q_62, q_1575, rfl, ⟨by decide +kernel, by decide +kernel, by decide +kernel⟩⟩
theorem cwh_lend : CWH 199 yL_lend cL_lend 4 [(0, 6, 9, 21), (0, 6, 12, 13), (0, 6, 15, 15)] 3 := ⟨q_1079, q_1080, q_50, q_1081, ⟨by decide +kernel, by decide +kernel, by decide +kernel⟩⟩
theorem cwm_202 : CWV RL RX11 202 yX11_lend cX11_lend 5 none 2 := ⟨q_1576, q_1577, q_1578, q_62, q_1579, rfl, ⟨by decide +kernel, by decide +kernel, by decide +kernel⟩⟩
theorem cwh_steal : CWH 203 yL_steal cL_steal 3 [(0, 5, 8, 21), (0, 5, 11, 15)] 2 := ⟨q_1087, q_1088, q_50, q_1089, ⟨by decide +kernel, by decide +kernel, by decide +kernel⟩⟩
theorem cwm_206 : CWV RL RX11 206 yX11_steal cX11_steal 2 none 1 := ⟨q_1580, q_1581, q_1582, q_62, q_1583, rfl, ⟨by decide +kernel, by decide +kernel, by decide +kernel⟩⟩
theorem cwh_law : CWH 207 yL_law cL_law 5 [(0, 10, 13, 13)] 4 := ⟨q_1094, q_1095, q_50, q_1096, ⟨by decide +kernel, by decide +kernel, by decide +kernel⟩⟩
theorem cwm_209 : CWV RL RX11 209 yX11_law cX11_law 4 ((some .int)) 2 := ⟨q_1584, q_1585, q_1586, q_62, q_1587, rfl, ⟨by decide +kernel, by decide +kernel, by decide +kernel⟩⟩
theorem cwh_give : CWH 210 yL_give cL_give 5 [(0, 10, 13, 21), (0, 10, 17, 13), (0, 10, 21, 15)] 4 := ⟨q_1101, q_1102, q_50, q_1103, ⟨by decide +kernel, by decide +kernel, by decide +kernel⟩⟩
theorem cwm_212 : CWV RL RX11 212 yX11_give cX11_give 8 ((some .int)) 2 := ⟨q_1588, q_1589, q_1590, q_62, q_1591, rfl, ⟨by decide +kernel, by decide +kernel, by decide +kernel⟩⟩
theorem cwh_name : CWH 213 yL_name cL_name 5 [(0, 10, 13, 21), (0, 10, 17, 13), (0, 10, 21, 15)] 4 := ⟨q_1111, q_1112, q_50, q_1113, ⟨by decide +kernel, by decide +kernel, by decide +kernel⟩⟩
theorem cwm_215 : CWV RL RX11 215 yX11_name cX11_name 4 ((some .int)) 2 := ⟨q_1592, q_1593, q_1594, q_62, q_1595, rfl, ⟨by decide +kernel, by decide +kernel, by decide +kernel⟩⟩
theorem cwh_doubt : CWH 216 yL_doubt cL_doubt 5 [(0, 17, 20, 21), (0, 17, 24, 15)] 4 := ⟨q_1127, q_1128, q_50, q_1129, ⟨by decide +kernel, by decide +kernel, by decide +kernel⟩⟩
theorem cwm_219 : CWV RL RX11 219 yX11_doubt cX11_doubt 4 ((some .boolean)) 2 := ⟨q_1596, q_1597, q_1598, q_62, q_1599, rfl, ⟨by decide +kernel, by decide +kernel, by decide +kernel⟩⟩
theorem cwh_stone : CWH 220 yL_stone cL_stone 5 [(0, 10, 13, 21), (0, 10, 17, 13)] 4 := ⟨q_1135, q_1136, q_50, q_1137, ⟨by decide +kernel, by decide +kernel, by decide +kernel⟩⟩
theorem cwm_222 : CWV RL RX11 222 yX11_stone cX11_stone 4 ((some .int)) 2 := ⟨q_1600, q_1601, q_1602, q_62, q_1603, rfl, ⟨by decide +kernel, by decide +kernel, by decide +kernel⟩⟩
theorem cwh_whole : CWH 223 yL_whole cL_whole 4 [(0, 9, 12, 21)] 3 := ⟨q_1159, q_1160, q_50, q_1161, ⟨by decide +kernel, by decide +kernel, by decide +kernel⟩⟩
theorem cwm_225 : CWV RL RX11 225 yX11_whole cX11_whole 4 ((some .int)) 1 := ⟨q_1608, q_1609, q_1610, q_62, q_1611, rfl, ⟨by decide +kernel, by decide +kernel, by decide +kernel⟩⟩
def Br_camera (Rep : XS → Nat → MS → Prop) : Prop := ∀ (σ : XS) (x : Nat) (μ : MS) (p0 p1 p2 : Int32), Rep σ x μ → (∀ nq, xk σ nq = 0 → of_X10_camera σ x nq p0 p1 p2) ∧ (∀ nq k, FL_camera σ x p0 p1 p2 nq = .error k → k = 1 ∨ k = 2) ∧ (of_X11_camera μ p0 p1 p2) ∧ (∀ nq f, xk σ nq = 0 → nq ≠ 0 → f_X11_thrown (f_X11_camera μ p0 p1 p2).2 = (hR cd_camera cvI (FL_camera σ x p0 p1 p2 nq) f σ).1 ∧ ((hR cd_camera cvI (FL_camera σ x p0 p1 p2 nq) f σ).1 = 0 → (hR cd_camera cvI (FL_camera σ x p0 p1 p2 nq) f σ).2.1 0 = ((f_X11_camera μ p0 p1 p2).1).toInt64) ∧ Rep (hR cd_camera cvI (FL_camera σ x p0 p1 p2 nq) f σ).2.2 x (f_X11_camera μ p0 p1 p2).2)
set_option maxRecDepth 100000 in
theorem lawc_camera (Rep : XS → Nat → MS → Prop) (br : Br_camera Rep) {p : Program} {l : Launch} (hfl : l.stackTraces = false) {e : Env} {R : Room} {s : State} {m : MethodId} {args : Array Value} {below : List Frame} {meth : Method} {c : Code} {H : Heap} {locs : List Loc} {cells slots : Nat} {Q : State → Prop} {D : va_G} {a : Nat → ClassId} {x e0 mo oo b N i : Nat} {xs : Nat → Int32} {σ : XS} {μ : MS} {f : Nat → Int64} {ls : Array Slot} (C : Cx D a p s m args c cL_law_ 8 RL) (hC : LC s D a x e0 mo oo) (hX : va_X b N xs s s.heap) (hb0 : b < s.heap.size) (hN : N ≤ 3072) (hi : i + 6 ≤ N) (hRf : 12 ≤ R.frames) (hRl : 400 ≤ R.locals) (hRc : cells + 10 ≤ R.cells) (hRs : slots + 400 ≤ R.slots) (hL : LI s D a x e0 mo oo σ μ f H locs) (hRep : Rep σ x μ) (hl : lv_has ls 8 [(4, .int (nI i)), (3, .ref oo), (2, .ref mo), (1, .ref x), (0, .ref b)]) (hend : ∀ σ1 μ1 f1 H1 locs1 ls1, LI s D a x e0 mo oo σ1 μ1 f1 H1 locs1 → Rep σ1 x μ1 → lv_has ls1 8 [(4, .int (nI i)), (3, .ref oo), (2, .ref mo), (1, .ref x), (0, .ref b)] → W p l e R s m args below meth c H1 locs1 (cells + 10) (slots + 400) Q (F0 m 2214 ls1 [])) : W p l e R s m args below meth c H locs cells slots Q (F0 m 172 ls []) := by
  have hx := C.1.1
  have hb := C.1.2.1
  have hbA : ¬ x ≤ b := by rw [hC.1]; omega
  have h1 : vp_in (nI i + 1) N := by rw [show (1 : Int32) = nI 1 from rfl, nI_add]; exact nI_in (by omega) (by omega)
  have h2 : vp_in (nI i + 2) N := by rw [show (2 : Int32) = nI 2 from rfl, nI_add]; exact nI_in (by omega) (by omega)
  have h3 : vp_in (nI i + 3) N := by rw [show (3 : Int32) = nI 3 from rfl, nI_add]; exact nI_in (by omega) (by omega)
  obtain ⟨a1, a2, a3, a4⟩ := br σ x μ (xs (nI i + 1).toNatClampNeg) (xs (nI i + 2).toNatClampNeg) (xs (nI i + 3).toNatClampNeg) hRep
  refine lv_aload_n hx hb dL_law__172 rfl (lv_at hl 3 rfl) ?_
  refine lv_aload_n hx hb dL_law__173 rfl (lv_at hl 4 rfl) ?_
  refine lv_iload hx hb dL_law__174 (lv_at hl 0 rfl) ?_
  refine lv_iconst (v := 1) hx hb dL_law__176 (by decide) ?_
  refine lv_iadd hx hb dL_law__177 ?_
  refine va_sld (A := fun q => x ≤ q) hx hb hX hb0 hbA hL.2.2.2 h1 dL_law__178 ?_
  refine lv_aload_n hx hb dL_law__179 rfl (lv_at hl 4 rfl) ?_
  refine lv_iload hx hb dL_law__180 (lv_at hl 0 rfl) ?_
  refine lv_iconst (v := 2) hx hb dL_law__182 (by decide) ?_
  refine lv_iadd hx hb dL_law__183 ?_
  refine va_sld (A := fun q => x ≤ q) hx hb hX hb0 hbA hL.2.2.2 h2 dL_law__184 ?_
  refine lv_aload_n hx hb dL_law__185 rfl (lv_at hl 4 rfl) ?_
  refine lv_iload hx hb dL_law__186 (lv_at hl 0 rfl) ?_
  refine lv_iconst (v := 3) hx hb dL_law__188 (by decide) ?_
  refine lv_iadd hx hb dL_law__189 ?_
  refine va_sld (A := fun q => x ≤ q) hx hb hX hb0 hbA hL.2.2.2 h3 dL_law__190 ?_
  refine lv_aload_n hx hb dL_law__191 rfl (lv_at hl 1 rfl) ?_
  refine cl_H (av := [.ref x, .int (xs (nI i + 1).toNatClampNeg), .int (xs (nI i + 2).toNatClampNeg), .int (xs (nI i + 3).toNatClampNeg), .ref oo]) (rest := []) C hC hL (k_L_camera l D a x e0 (AW x mo oo) hfl oo f σ (xs (nI i + 1).toNatClampNeg) (xs (nI i + 2).toNatClampNeg) (xs (nI i + 3).toNatClampNeg) a1 a2) cwh_camera ⟨by omega, by omega⟩ rfl rfl hl.1 (Nat.le_of_ble_eq_true rfl) (by omega) (by omega) dL_law__192 (fun H1 locs1 Nq hq hq0 hL => ?_)
  have a4 := a4 Nq f hq hq0
  generalize hh9 : hR cd_camera cvI (FL_camera σ x (xs (nI i + 1).toNatClampNeg) (xs (nI i + 2).toNatClampNeg) (xs (nI i + 3).toNatClampNeg) Nq) f σ = h9 at hL a4 ⊢
  refine lv_istore (lv' := [(5, .int h9.1), (4, .int (nI i)), (3, .ref oo), (2, .ref mo), (1, .ref x), (0, .ref b)]) hx hb dL_law__195 hl (by decide) rfl (fun ls hl => ?_)
  refine lv_aload_n hx hb dL_law__197 rfl (lv_at hl 3 rfl) ?_
  refine lv_aload_n hx hb dL_law__198 rfl (lv_at hl 5 rfl) ?_
  refine lv_iload hx hb dL_law__199 (lv_at hl 1 rfl) ?_
  refine lv_iconst (v := 1) hx hb dL_law__201 (by decide) ?_
  refine lv_iadd hx hb dL_law__202 ?_
  refine va_sld (A := fun q => x ≤ q) hx hb hX hb0 hbA hL.2.2.2 h1 dL_law__203 ?_
  refine lv_aload_n hx hb dL_law__204 rfl (lv_at hl 5 rfl) ?_
  refine lv_iload hx hb dL_law__205 (lv_at hl 1 rfl) ?_
  refine lv_iconst (v := 2) hx hb dL_law__207 (by decide) ?_
  refine lv_iadd hx hb dL_law__208 ?_
  refine va_sld (A := fun q => x ≤ q) hx hb hX hb0 hbA hL.2.2.2 h2 dL_law__209 ?_
  refine lv_aload_n hx hb dL_law__210 rfl (lv_at hl 5 rfl) ?_
  refine lv_iload hx hb dL_law__211 (lv_at hl 1 rfl) ?_
  refine lv_iconst (v := 3) hx hb dL_law__213 (by decide) ?_
  refine lv_iadd hx hb dL_law__214 ?_
  refine va_sld (A := fun q => x ≤ q) hx hb hX hb0 hbA hL.2.2.2 h3 dL_law__215 ?_
  refine cl_M (av := [.int (xs (nI i + 1).toNatClampNeg), .int (xs (nI i + 2).toNatClampNeg), .int (xs (nI i + 3).toNatClampNeg)]) (rest := []) C hC hL (k_X11_camera l D a mo μ (xs (nI i + 1).toNatClampNeg) (xs (nI i + 2).toNatClampNeg) (xs (nI i + 3).toNatClampNeg) a3) cwm_127 (okR_of (F := R.frames) (L := R.locals) rfl rfl (by omega) (by omega)) rfl rfl hl.1 (Nat.le_of_ble_eq_true rfl) (by omega) (by omega) dL_law__216 (fun H2 locs2 hL => ?_)
  refine lv_istore (lv' := [(6, .int (f_X11_camera μ (xs (nI i + 1).toNatClampNeg) (xs (nI i + 2).toNatClampNeg) (xs (nI i + 3).toNatClampNeg)).1), (5, .int h9.1), (4, .int (nI i)), (3, .ref oo), (2, .ref mo), (1, .ref x), (0, .ref b)]) hx hb dL_law__219 hl (by decide) rfl (fun ls hl => ?_)
  refine lv_aload_n hx hb dL_law__221 rfl (lv_at hl 4 rfl) ?_
  refine cl_R (av := []) (rest := []) C hL (k_X11_thrown l D a mo (f_X11_camera μ (xs (nI i + 1).toNatClampNeg) (xs (nI i + 2).toNatClampNeg) (xs (nI i + 3).toNatClampNeg)).2) cwm_128 (okR_of (F := R.frames) (L := R.locals) rfl rfl (by omega) (by omega)) rfl rfl hl.1 (Nat.le_of_ble_eq_true rfl) (by omega) (by omega) dL_law__222 ?_
  refine lv_iload hx hb dL_law__225 (lv_at hl 1 rfl) ?_
  refine lv_icmp_eq (tgt := 232) hx hb dL_law__227 (by decide) (fun _ => ?_) (fun c => absurd a4.1 c)
  refine lv_iload hx hb dL_law__232 (lv_at hl 1 rfl) ?_
  refine lv_if_ne (tgt := 249) hx hb dL_law__234 (by decide) (fun _ => ?_) (fun c8 => ?_)
  · skip
    refine lv_goto (tgt := 2214) hx hb dL_law__249 (by decide) ?_
    exact W.widen (k := cells + 10) (n := slots + 400) (by omega) (by omega) (hend _ _ _ _ _ ls hL a4.2.2 (lv_sub hl [2, 3, 4, 5, 6] rfl))
  · have a5 := a4.2.1 c8
    refine lv_aload_n hx hb dL_law__237 rfl (lv_at hl 3 rfl) ?_
    refine lv_iconst (v := 0) hx hb dL_law__238 (by decide) ?_
    refine cl_out C hL dL_law__239 ?_
    refine lv_iload hx hb dL_law__240 (lv_at hl 0 rfl) ?_
    refine lv_i2l (v := ((f_X11_camera μ (xs (nI i + 1).toNatClampNeg) (xs (nI i + 2).toNatClampNeg) (xs (nI i + 3).toNatClampNeg)).1).toInt64) hx hb dL_law__242 rfl ?_
    refine W.lcmp hx hb dL_law__243 ?_
    rw [a5]
    refine lv_if_eq (tgt := 249) hx hb dL_law__244 (by decide) (fun _ => ?_) (fun c => absurd (cmp_self _) c)
    refine lv_goto (tgt := 2214) hx hb dL_law__249 (by decide) ?_
    exact W.widen (k := cells + 10) (n := slots + 400) (by omega) (by omega) (hend _ _ _ _ _ ls hL a4.2.2 (lv_sub hl [2, 3, 4, 5, 6] rfl))
def Br_clock (Rep : XS → Nat → MS → Prop) : Prop := ∀ (σ : XS) (x : Nat) (μ : MS) (p0 p1 : Int32), Rep σ x μ → (of_X10_clock σ x p0 p1) ∧ (∀ nq k, FL_clock σ x p0 p1 nq = .error k → k = 3 ∨ k = 1) ∧ (of_X11_clock μ p0 p1) ∧ (∀ nq f, xk σ nq = 0 → nq ≠ 0 → f_X11_thrown (f_X11_clock μ p0 p1).2 = (hR cd_clock cvI (FL_clock σ x p0 p1 nq) f σ).1 ∧ ((hR cd_clock cvI (FL_clock σ x p0 p1 nq) f σ).1 = 0 → (hR cd_clock cvI (FL_clock σ x p0 p1 nq) f σ).2.1 0 = ((f_X11_clock μ p0 p1).1).toInt64) ∧ Rep (hR cd_clock cvI (FL_clock σ x p0 p1 nq) f σ).2.2 x (f_X11_clock μ p0 p1).2)
set_option maxRecDepth 100000 in
theorem lawc_clock (Rep : XS → Nat → MS → Prop) (br : Br_clock Rep) {p : Program} {l : Launch} (hfl : l.stackTraces = false) {e : Env} {R : Room} {s : State} {m : MethodId} {args : Array Value} {below : List Frame} {meth : Method} {c : Code} {H : Heap} {locs : List Loc} {cells slots : Nat} {Q : State → Prop} {D : va_G} {a : Nat → ClassId} {x e0 mo oo b N i : Nat} {xs : Nat → Int32} {σ : XS} {μ : MS} {f : Nat → Int64} {ls : Array Slot} (C : Cx D a p s m args c cL_law_ 8 RL) (hC : LC s D a x e0 mo oo) (hX : va_X b N xs s s.heap) (hb0 : b < s.heap.size) (hN : N ≤ 3072) (hi : i + 6 ≤ N) (hRf : 12 ≤ R.frames) (hRl : 400 ≤ R.locals) (hRc : cells + 10 ≤ R.cells) (hRs : slots + 400 ≤ R.slots) (hL : LI s D a x e0 mo oo σ μ f H locs) (hRep : Rep σ x μ) (hl : lv_has ls 8 [(4, .int (nI i)), (3, .ref oo), (2, .ref mo), (1, .ref x), (0, .ref b)]) (hend : ∀ σ1 μ1 f1 H1 locs1 ls1, LI s D a x e0 mo oo σ1 μ1 f1 H1 locs1 → Rep σ1 x μ1 → lv_has ls1 8 [(4, .int (nI i)), (3, .ref oo), (2, .ref mo), (1, .ref x), (0, .ref b)] → W p l e R s m args below meth c H1 locs1 (cells + 10) (slots + 400) Q (F0 m 2214 ls1 [])) : W p l e R s m args below meth c H locs cells slots Q (F0 m 252 ls []) := by
  have hx := C.1.1
  have hb := C.1.2.1
  have hbA : ¬ x ≤ b := by rw [hC.1]; omega
  have h1 : vp_in (nI i + 1) N := by rw [show (1 : Int32) = nI 1 from rfl, nI_add]; exact nI_in (by omega) (by omega)
  have h2 : vp_in (nI i + 2) N := by rw [show (2 : Int32) = nI 2 from rfl, nI_add]; exact nI_in (by omega) (by omega)
  obtain ⟨a1, a2, a3, a4⟩ := br σ x μ (xs (nI i + 1).toNatClampNeg) (xs (nI i + 2).toNatClampNeg) hRep
  refine lv_aload_n hx hb dL_law__252 rfl (lv_at hl 3 rfl) ?_
  refine lv_aload_n hx hb dL_law__253 rfl (lv_at hl 4 rfl) ?_
  refine lv_iload hx hb dL_law__254 (lv_at hl 0 rfl) ?_
  refine lv_iconst (v := 1) hx hb dL_law__256 (by decide) ?_
  refine lv_iadd hx hb dL_law__257 ?_
  refine va_sld (A := fun q => x ≤ q) hx hb hX hb0 hbA hL.2.2.2 h1 dL_law__258 ?_
  refine lv_aload_n hx hb dL_law__259 rfl (lv_at hl 4 rfl) ?_
  refine lv_iload hx hb dL_law__260 (lv_at hl 0 rfl) ?_
  refine lv_iconst (v := 2) hx hb dL_law__262 (by decide) ?_
  refine lv_iadd hx hb dL_law__263 ?_
  refine va_sld (A := fun q => x ≤ q) hx hb hX hb0 hbA hL.2.2.2 h2 dL_law__264 ?_
  refine lv_aload_n hx hb dL_law__265 rfl (lv_at hl 1 rfl) ?_
  refine cl_H (av := [.ref x, .int (xs (nI i + 1).toNatClampNeg), .int (xs (nI i + 2).toNatClampNeg), .ref oo]) (rest := []) C hC hL (k_L_clock l D a x e0 (AW x mo oo) hfl oo f σ (xs (nI i + 1).toNatClampNeg) (xs (nI i + 2).toNatClampNeg) a1 a2) cwh_clock ⟨by omega, by omega⟩ rfl rfl hl.1 (Nat.le_of_ble_eq_true rfl) (by omega) (by omega) dL_law__266 (fun H1 locs1 Nq hq hq0 hL => ?_)
  have a4 := a4 Nq f hq hq0
  generalize hh9 : hR cd_clock cvI (FL_clock σ x (xs (nI i + 1).toNatClampNeg) (xs (nI i + 2).toNatClampNeg) Nq) f σ = h9 at hL a4 ⊢
  refine lv_istore (lv' := [(5, .int h9.1), (4, .int (nI i)), (3, .ref oo), (2, .ref mo), (1, .ref x), (0, .ref b)]) hx hb dL_law__269 hl (by decide) rfl (fun ls hl => ?_)
  refine lv_aload_n hx hb dL_law__271 rfl (lv_at hl 3 rfl) ?_
  refine lv_aload_n hx hb dL_law__272 rfl (lv_at hl 5 rfl) ?_
  refine lv_iload hx hb dL_law__273 (lv_at hl 1 rfl) ?_
  refine lv_iconst (v := 1) hx hb dL_law__275 (by decide) ?_
  refine lv_iadd hx hb dL_law__276 ?_
  refine va_sld (A := fun q => x ≤ q) hx hb hX hb0 hbA hL.2.2.2 h1 dL_law__277 ?_
  refine lv_aload_n hx hb dL_law__278 rfl (lv_at hl 5 rfl) ?_
  refine lv_iload hx hb dL_law__279 (lv_at hl 1 rfl) ?_
  refine lv_iconst (v := 2) hx hb dL_law__281 (by decide) ?_
  refine lv_iadd hx hb dL_law__282 ?_
  refine va_sld (A := fun q => x ≤ q) hx hb hX hb0 hbA hL.2.2.2 h2 dL_law__283 ?_
  refine cl_M (av := [.int (xs (nI i + 1).toNatClampNeg), .int (xs (nI i + 2).toNatClampNeg)]) (rest := []) C hC hL (k_X11_clock l D a mo μ (xs (nI i + 1).toNatClampNeg) (xs (nI i + 2).toNatClampNeg) a3) cwm_135 (okR_of (F := R.frames) (L := R.locals) rfl rfl (by omega) (by omega)) rfl rfl hl.1 (Nat.le_of_ble_eq_true rfl) (by omega) (by omega) dL_law__284 (fun H2 locs2 hL => ?_)
  refine lv_istore (lv' := [(6, .int (f_X11_clock μ (xs (nI i + 1).toNatClampNeg) (xs (nI i + 2).toNatClampNeg)).1), (5, .int h9.1), (4, .int (nI i)), (3, .ref oo), (2, .ref mo), (1, .ref x), (0, .ref b)]) hx hb dL_law__287 hl (by decide) rfl (fun ls hl => ?_)
  refine lv_aload_n hx hb dL_law__289 rfl (lv_at hl 4 rfl) ?_
  refine cl_R (av := []) (rest := []) C hL (k_X11_thrown l D a mo (f_X11_clock μ (xs (nI i + 1).toNatClampNeg) (xs (nI i + 2).toNatClampNeg)).2) cwm_128 (okR_of (F := R.frames) (L := R.locals) rfl rfl (by omega) (by omega)) rfl rfl hl.1 (Nat.le_of_ble_eq_true rfl) (by omega) (by omega) dL_law__290 ?_
  refine lv_iload hx hb dL_law__293 (lv_at hl 1 rfl) ?_
  refine lv_icmp_eq (tgt := 300) hx hb dL_law__295 (by decide) (fun _ => ?_) (fun c => absurd a4.1 c)
  refine lv_iload hx hb dL_law__300 (lv_at hl 1 rfl) ?_
  refine lv_if_ne (tgt := 317) hx hb dL_law__302 (by decide) (fun _ => ?_) (fun c8 => ?_)
  · skip
    refine lv_goto (tgt := 2214) hx hb dL_law__317 (by decide) ?_
    exact W.widen (k := cells + 10) (n := slots + 400) (by omega) (by omega) (hend _ _ _ _ _ ls hL a4.2.2 (lv_sub hl [2, 3, 4, 5, 6] rfl))
  · have a5 := a4.2.1 c8
    refine lv_aload_n hx hb dL_law__305 rfl (lv_at hl 3 rfl) ?_
    refine lv_iconst (v := 0) hx hb dL_law__306 (by decide) ?_
    refine cl_out C hL dL_law__307 ?_
    refine lv_iload hx hb dL_law__308 (lv_at hl 0 rfl) ?_
    refine lv_i2l (v := ((f_X11_clock μ (xs (nI i + 1).toNatClampNeg) (xs (nI i + 2).toNatClampNeg)).1).toInt64) hx hb dL_law__310 rfl ?_
    refine W.lcmp hx hb dL_law__311 ?_
    rw [a5]
    refine lv_if_eq (tgt := 317) hx hb dL_law__312 (by decide) (fun _ => ?_) (fun c => absurd (cmp_self _) c)
    refine lv_goto (tgt := 2214) hx hb dL_law__317 (by decide) ?_
    exact W.widen (k := cells + 10) (n := slots + 400) (by omega) (by omega) (hend _ _ _ _ _ ls hL a4.2.2 (lv_sub hl [2, 3, 4, 5, 6] rfl))
def Br_cloud (Rep : XS → Nat → MS → Prop) : Prop := ∀ (σ : XS) (x : Nat) (μ : MS) (p0 p1 : Int32), Rep σ x μ → (∀ nq, xk σ nq = 0 → of_X10_cloud σ x nq p0 p1) ∧ (∀ nq k, FL_cloud σ x p0 p1 nq = .error k → k = 3 ∨ k = 1 ∨ k = 2) ∧ (of_X11_cloud μ p0 p1) ∧ (∀ nq f, xk σ nq = 0 → nq ≠ 0 → f_X11_thrown (f_X11_cloud μ p0 p1).2 = (hR cd_cloud cvI (FL_cloud σ x p0 p1 nq) f σ).1 ∧ ((hR cd_cloud cvI (FL_cloud σ x p0 p1 nq) f σ).1 = 0 → (hR cd_cloud cvI (FL_cloud σ x p0 p1 nq) f σ).2.1 0 = ((f_X11_cloud μ p0 p1).1).toInt64) ∧ Rep (hR cd_cloud cvI (FL_cloud σ x p0 p1 nq) f σ).2.2 x (f_X11_cloud μ p0 p1).2)
set_option maxRecDepth 100000 in
theorem lawc_cloud (Rep : XS → Nat → MS → Prop) (br : Br_cloud Rep) {p : Program} {l : Launch} (hfl : l.stackTraces = false) {e : Env} {R : Room} {s : State} {m : MethodId} {args : Array Value} {below : List Frame} {meth : Method} {c : Code} {H : Heap} {locs : List Loc} {cells slots : Nat} {Q : State → Prop} {D : va_G} {a : Nat → ClassId} {x e0 mo oo b N i : Nat} {xs : Nat → Int32} {σ : XS} {μ : MS} {f : Nat → Int64} {ls : Array Slot} (C : Cx D a p s m args c cL_law_ 8 RL) (hC : LC s D a x e0 mo oo) (hX : va_X b N xs s s.heap) (hb0 : b < s.heap.size) (hN : N ≤ 3072) (hi : i + 6 ≤ N) (hRf : 12 ≤ R.frames) (hRl : 400 ≤ R.locals) (hRc : cells + 10 ≤ R.cells) (hRs : slots + 400 ≤ R.slots) (hL : LI s D a x e0 mo oo σ μ f H locs) (hRep : Rep σ x μ) (hl : lv_has ls 8 [(4, .int (nI i)), (3, .ref oo), (2, .ref mo), (1, .ref x), (0, .ref b)]) (hend : ∀ σ1 μ1 f1 H1 locs1 ls1, LI s D a x e0 mo oo σ1 μ1 f1 H1 locs1 → Rep σ1 x μ1 → lv_has ls1 8 [(4, .int (nI i)), (3, .ref oo), (2, .ref mo), (1, .ref x), (0, .ref b)] → W p l e R s m args below meth c H1 locs1 (cells + 10) (slots + 400) Q (F0 m 2214 ls1 [])) : W p l e R s m args below meth c H locs cells slots Q (F0 m 320 ls []) := by
  have hx := C.1.1
  have hb := C.1.2.1
  have hbA : ¬ x ≤ b := by rw [hC.1]; omega
  have h1 : vp_in (nI i + 1) N := by rw [show (1 : Int32) = nI 1 from rfl, nI_add]; exact nI_in (by omega) (by omega)
  have h2 : vp_in (nI i + 2) N := by rw [show (2 : Int32) = nI 2 from rfl, nI_add]; exact nI_in (by omega) (by omega)
  obtain ⟨a1, a2, a3, a4⟩ := br σ x μ (xs (nI i + 1).toNatClampNeg) (xs (nI i + 2).toNatClampNeg) hRep
  refine lv_aload_n hx hb dL_law__320 rfl (lv_at hl 3 rfl) ?_
  refine lv_aload_n hx hb dL_law__321 rfl (lv_at hl 4 rfl) ?_
  refine lv_iload hx hb dL_law__322 (lv_at hl 0 rfl) ?_
  refine lv_iconst (v := 1) hx hb dL_law__324 (by decide) ?_
  refine lv_iadd hx hb dL_law__325 ?_
  refine va_sld (A := fun q => x ≤ q) hx hb hX hb0 hbA hL.2.2.2 h1 dL_law__326 ?_
  refine lv_aload_n hx hb dL_law__327 rfl (lv_at hl 4 rfl) ?_
  refine lv_iload hx hb dL_law__328 (lv_at hl 0 rfl) ?_
  refine lv_iconst (v := 2) hx hb dL_law__330 (by decide) ?_
  refine lv_iadd hx hb dL_law__331 ?_
  refine va_sld (A := fun q => x ≤ q) hx hb hX hb0 hbA hL.2.2.2 h2 dL_law__332 ?_
  refine lv_aload_n hx hb dL_law__333 rfl (lv_at hl 1 rfl) ?_
  refine cl_H (av := [.ref x, .int (xs (nI i + 1).toNatClampNeg), .int (xs (nI i + 2).toNatClampNeg), .ref oo]) (rest := []) C hC hL (k_L_cloud l D a x e0 (AW x mo oo) hfl oo f σ (xs (nI i + 1).toNatClampNeg) (xs (nI i + 2).toNatClampNeg) a1 a2) cwh_cloud ⟨by omega, by omega⟩ rfl rfl hl.1 (Nat.le_of_ble_eq_true rfl) (by omega) (by omega) dL_law__334 (fun H1 locs1 Nq hq hq0 hL => ?_)
  have a4 := a4 Nq f hq hq0
  generalize hh9 : hR cd_cloud cvI (FL_cloud σ x (xs (nI i + 1).toNatClampNeg) (xs (nI i + 2).toNatClampNeg) Nq) f σ = h9 at hL a4 ⊢
  refine lv_istore (lv' := [(5, .int h9.1), (4, .int (nI i)), (3, .ref oo), (2, .ref mo), (1, .ref x), (0, .ref b)]) hx hb dL_law__337 hl (by decide) rfl (fun ls hl => ?_)
  refine lv_aload_n hx hb dL_law__339 rfl (lv_at hl 3 rfl) ?_
  refine lv_aload_n hx hb dL_law__340 rfl (lv_at hl 5 rfl) ?_
  refine lv_iload hx hb dL_law__341 (lv_at hl 1 rfl) ?_
  refine lv_iconst (v := 1) hx hb dL_law__343 (by decide) ?_
  refine lv_iadd hx hb dL_law__344 ?_
  refine va_sld (A := fun q => x ≤ q) hx hb hX hb0 hbA hL.2.2.2 h1 dL_law__345 ?_
  refine lv_aload_n hx hb dL_law__346 rfl (lv_at hl 5 rfl) ?_
  refine lv_iload hx hb dL_law__347 (lv_at hl 1 rfl) ?_
  refine lv_iconst (v := 2) hx hb dL_law__349 (by decide) ?_
  refine lv_iadd hx hb dL_law__350 ?_
  refine va_sld (A := fun q => x ≤ q) hx hb hX hb0 hbA hL.2.2.2 h2 dL_law__351 ?_
  refine cl_M (av := [.int (xs (nI i + 1).toNatClampNeg), .int (xs (nI i + 2).toNatClampNeg)]) (rest := []) C hC hL (k_X11_cloud l D a mo μ (xs (nI i + 1).toNatClampNeg) (xs (nI i + 2).toNatClampNeg) a3) cwm_138 (okR_of (F := R.frames) (L := R.locals) rfl rfl (by omega) (by omega)) rfl rfl hl.1 (Nat.le_of_ble_eq_true rfl) (by omega) (by omega) dL_law__352 (fun H2 locs2 hL => ?_)
  refine lv_istore (lv' := [(6, .int (f_X11_cloud μ (xs (nI i + 1).toNatClampNeg) (xs (nI i + 2).toNatClampNeg)).1), (5, .int h9.1), (4, .int (nI i)), (3, .ref oo), (2, .ref mo), (1, .ref x), (0, .ref b)]) hx hb dL_law__355 hl (by decide) rfl (fun ls hl => ?_)
  refine lv_aload_n hx hb dL_law__357 rfl (lv_at hl 4 rfl) ?_
  refine cl_R (av := []) (rest := []) C hL (k_X11_thrown l D a mo (f_X11_cloud μ (xs (nI i + 1).toNatClampNeg) (xs (nI i + 2).toNatClampNeg)).2) cwm_128 (okR_of (F := R.frames) (L := R.locals) rfl rfl (by omega) (by omega)) rfl rfl hl.1 (Nat.le_of_ble_eq_true rfl) (by omega) (by omega) dL_law__358 ?_
  refine lv_iload hx hb dL_law__361 (lv_at hl 1 rfl) ?_
  refine lv_icmp_eq (tgt := 368) hx hb dL_law__363 (by decide) (fun _ => ?_) (fun c => absurd a4.1 c)
  refine lv_iload hx hb dL_law__368 (lv_at hl 1 rfl) ?_
  refine lv_if_ne (tgt := 385) hx hb dL_law__370 (by decide) (fun _ => ?_) (fun c8 => ?_)
  · skip
    refine lv_goto (tgt := 2214) hx hb dL_law__385 (by decide) ?_
    exact W.widen (k := cells + 10) (n := slots + 400) (by omega) (by omega) (hend _ _ _ _ _ ls hL a4.2.2 (lv_sub hl [2, 3, 4, 5, 6] rfl))
  · have a5 := a4.2.1 c8
    refine lv_aload_n hx hb dL_law__373 rfl (lv_at hl 3 rfl) ?_
    refine lv_iconst (v := 0) hx hb dL_law__374 (by decide) ?_
    refine cl_out C hL dL_law__375 ?_
    refine lv_iload hx hb dL_law__376 (lv_at hl 0 rfl) ?_
    refine lv_i2l (v := ((f_X11_cloud μ (xs (nI i + 1).toNatClampNeg) (xs (nI i + 2).toNatClampNeg)).1).toInt64) hx hb dL_law__378 rfl ?_
    refine W.lcmp hx hb dL_law__379 ?_
    rw [a5]
    refine lv_if_eq (tgt := 385) hx hb dL_law__380 (by decide) (fun _ => ?_) (fun c => absurd (cmp_self _) c)
    refine lv_goto (tgt := 2214) hx hb dL_law__385 (by decide) ?_
    exact W.widen (k := cells + 10) (n := slots + 400) (by omega) (by omega) (hend _ _ _ _ _ ls hL a4.2.2 (lv_sub hl [2, 3, 4, 5, 6] rfl))
def Br_begin (Rep : XS → Nat → MS → Prop) : Prop := ∀ (σ : XS) (x : Nat) (μ : MS) (p0 p1 p2 p3 p4 : Int32), Rep σ x μ → (∀ nq, xk σ nq = 0 → of_X10_begin σ x nq p0 p1 p2 p3 p4) ∧ (∀ nq k, FL_begin σ x p0 p1 p2 p3 p4 nq = .error k → k = 3 ∨ k = 1 ∨ k = 2) ∧ (of_X11_begin μ p0 p1 p2 p3 p4) ∧ (∀ nq f, xk σ nq = 0 → nq ≠ 0 → f_X11_thrown (f_X11_begin μ p0 p1 p2 p3 p4) = (hR cd_begin cvV (FL_begin σ x p0 p1 p2 p3 p4 nq) f σ).1 ∧ Rep (hR cd_begin cvV (FL_begin σ x p0 p1 p2 p3 p4 nq) f σ).2.2 x (f_X11_begin μ p0 p1 p2 p3 p4))
set_option maxRecDepth 100000 in
theorem lawc_begin (Rep : XS → Nat → MS → Prop) (br : Br_begin Rep) {p : Program} {l : Launch} (hfl : l.stackTraces = false) {e : Env} {R : Room} {s : State} {m : MethodId} {args : Array Value} {below : List Frame} {meth : Method} {c : Code} {H : Heap} {locs : List Loc} {cells slots : Nat} {Q : State → Prop} {D : va_G} {a : Nat → ClassId} {x e0 mo oo b N i : Nat} {xs : Nat → Int32} {σ : XS} {μ : MS} {f : Nat → Int64} {ls : Array Slot} (C : Cx D a p s m args c cL_law_ 8 RL) (hC : LC s D a x e0 mo oo) (hX : va_X b N xs s s.heap) (hb0 : b < s.heap.size) (hN : N ≤ 3072) (hi : i + 6 ≤ N) (hRf : 12 ≤ R.frames) (hRl : 400 ≤ R.locals) (hRc : cells + 10 ≤ R.cells) (hRs : slots + 400 ≤ R.slots) (hL : LI s D a x e0 mo oo σ μ f H locs) (hRep : Rep σ x μ) (hl : lv_has ls 8 [(4, .int (nI i)), (3, .ref oo), (2, .ref mo), (1, .ref x), (0, .ref b)]) (hend : ∀ σ1 μ1 f1 H1 locs1 ls1, LI s D a x e0 mo oo σ1 μ1 f1 H1 locs1 → Rep σ1 x μ1 → lv_has ls1 8 [(4, .int (nI i)), (3, .ref oo), (2, .ref mo), (1, .ref x), (0, .ref b)] → W p l e R s m args below meth c H1 locs1 (cells + 10) (slots + 400) Q (F0 m 2214 ls1 [])) : W p l e R s m args below meth c H locs cells slots Q (F0 m 388 ls []) := by
  have hx := C.1.1
  have hb := C.1.2.1
  have hbA : ¬ x ≤ b := by rw [hC.1]; omega
  have h1 : vp_in (nI i + 1) N := by rw [show (1 : Int32) = nI 1 from rfl, nI_add]; exact nI_in (by omega) (by omega)
  have h2 : vp_in (nI i + 2) N := by rw [show (2 : Int32) = nI 2 from rfl, nI_add]; exact nI_in (by omega) (by omega)
  have h3 : vp_in (nI i + 3) N := by rw [show (3 : Int32) = nI 3 from rfl, nI_add]; exact nI_in (by omega) (by omega)
  have h4 : vp_in (nI i + 4) N := by rw [show (4 : Int32) = nI 4 from rfl, nI_add]; exact nI_in (by omega) (by omega)
  have h5 : vp_in (nI i + 5) N := by rw [show (5 : Int32) = nI 5 from rfl, nI_add]; exact nI_in (by omega) (by omega)
  obtain ⟨a1, a2, a3, a4⟩ := br σ x μ (xs (nI i + 1).toNatClampNeg) (xs (nI i + 2).toNatClampNeg) (xs (nI i + 3).toNatClampNeg) (xs (nI i + 4).toNatClampNeg) (xs (nI i + 5).toNatClampNeg) hRep
  refine lv_aload_n hx hb dL_law__388 rfl (lv_at hl 3 rfl) ?_
  refine lv_aload_n hx hb dL_law__389 rfl (lv_at hl 4 rfl) ?_
  refine lv_iload hx hb dL_law__390 (lv_at hl 0 rfl) ?_
  refine lv_iconst (v := 1) hx hb dL_law__392 (by decide) ?_
  refine lv_iadd hx hb dL_law__393 ?_
  refine va_sld (A := fun q => x ≤ q) hx hb hX hb0 hbA hL.2.2.2 h1 dL_law__394 ?_
  refine lv_aload_n hx hb dL_law__395 rfl (lv_at hl 4 rfl) ?_
  refine lv_iload hx hb dL_law__396 (lv_at hl 0 rfl) ?_
  refine lv_iconst (v := 2) hx hb dL_law__398 (by decide) ?_
  refine lv_iadd hx hb dL_law__399 ?_
  refine va_sld (A := fun q => x ≤ q) hx hb hX hb0 hbA hL.2.2.2 h2 dL_law__400 ?_
  refine lv_aload_n hx hb dL_law__401 rfl (lv_at hl 4 rfl) ?_
  refine lv_iload hx hb dL_law__402 (lv_at hl 0 rfl) ?_
  refine lv_iconst (v := 3) hx hb dL_law__404 (by decide) ?_
  refine lv_iadd hx hb dL_law__405 ?_
  refine va_sld (A := fun q => x ≤ q) hx hb hX hb0 hbA hL.2.2.2 h3 dL_law__406 ?_
  refine lv_aload_n hx hb dL_law__407 rfl (lv_at hl 4 rfl) ?_
  refine lv_iload hx hb dL_law__408 (lv_at hl 0 rfl) ?_
  refine lv_iconst (v := 4) hx hb dL_law__410 (by decide) ?_
  refine lv_iadd hx hb dL_law__411 ?_
  refine va_sld (A := fun q => x ≤ q) hx hb hX hb0 hbA hL.2.2.2 h4 dL_law__412 ?_
  refine lv_aload_n hx hb dL_law__413 rfl (lv_at hl 4 rfl) ?_
  refine lv_iload hx hb dL_law__414 (lv_at hl 0 rfl) ?_
  refine lv_iconst (v := 5) hx hb dL_law__416 (by decide) ?_
  refine lv_iadd hx hb dL_law__417 ?_
  refine va_sld (A := fun q => x ≤ q) hx hb hX hb0 hbA hL.2.2.2 h5 dL_law__418 ?_
  refine cl_H (av := [.ref x, .int (xs (nI i + 1).toNatClampNeg), .int (xs (nI i + 2).toNatClampNeg), .int (xs (nI i + 3).toNatClampNeg), .int (xs (nI i + 4).toNatClampNeg), .int (xs (nI i + 5).toNatClampNeg)]) (rest := []) C hC hL (k_L_begin l D a x e0 (AW x mo oo) hfl oo f σ (xs (nI i + 1).toNatClampNeg) (xs (nI i + 2).toNatClampNeg) (xs (nI i + 3).toNatClampNeg) (xs (nI i + 4).toNatClampNeg) (xs (nI i + 5).toNatClampNeg) a1 a2) cwh_begin ⟨by omega, by omega⟩ rfl rfl hl.1 (Nat.le_of_ble_eq_true rfl) (by omega) (by omega) dL_law__419 (fun H1 locs1 Nq hq hq0 hL => ?_)
  have a4 := a4 Nq f hq hq0
  generalize hh9 : hR cd_begin cvV (FL_begin σ x (xs (nI i + 1).toNatClampNeg) (xs (nI i + 2).toNatClampNeg) (xs (nI i + 3).toNatClampNeg) (xs (nI i + 4).toNatClampNeg) (xs (nI i + 5).toNatClampNeg) Nq) f σ = h9 at hL a4 ⊢
  refine lv_istore (lv' := [(5, .int h9.1), (4, .int (nI i)), (3, .ref oo), (2, .ref mo), (1, .ref x), (0, .ref b)]) hx hb dL_law__422 hl (by decide) rfl (fun ls hl => ?_)
  refine lv_aload_n hx hb dL_law__424 rfl (lv_at hl 3 rfl) ?_
  refine lv_aload_n hx hb dL_law__425 rfl (lv_at hl 5 rfl) ?_
  refine lv_iload hx hb dL_law__426 (lv_at hl 1 rfl) ?_
  refine lv_iconst (v := 1) hx hb dL_law__428 (by decide) ?_
  refine lv_iadd hx hb dL_law__429 ?_
  refine va_sld (A := fun q => x ≤ q) hx hb hX hb0 hbA hL.2.2.2 h1 dL_law__430 ?_
  refine lv_aload_n hx hb dL_law__431 rfl (lv_at hl 5 rfl) ?_
  refine lv_iload hx hb dL_law__432 (lv_at hl 1 rfl) ?_
  refine lv_iconst (v := 2) hx hb dL_law__434 (by decide) ?_
  refine lv_iadd hx hb dL_law__435 ?_
  refine va_sld (A := fun q => x ≤ q) hx hb hX hb0 hbA hL.2.2.2 h2 dL_law__436 ?_
  refine lv_aload_n hx hb dL_law__437 rfl (lv_at hl 5 rfl) ?_
  refine lv_iload hx hb dL_law__438 (lv_at hl 1 rfl) ?_
  refine lv_iconst (v := 3) hx hb dL_law__440 (by decide) ?_
  refine lv_iadd hx hb dL_law__441 ?_
  refine va_sld (A := fun q => x ≤ q) hx hb hX hb0 hbA hL.2.2.2 h3 dL_law__442 ?_
  refine lv_aload_n hx hb dL_law__443 rfl (lv_at hl 5 rfl) ?_
  refine lv_iload hx hb dL_law__444 (lv_at hl 1 rfl) ?_
  refine lv_iconst (v := 4) hx hb dL_law__446 (by decide) ?_
  refine lv_iadd hx hb dL_law__447 ?_
  refine va_sld (A := fun q => x ≤ q) hx hb hX hb0 hbA hL.2.2.2 h4 dL_law__448 ?_
  refine lv_aload_n hx hb dL_law__449 rfl (lv_at hl 5 rfl) ?_
  refine lv_iload hx hb dL_law__450 (lv_at hl 1 rfl) ?_
  refine lv_iconst (v := 5) hx hb dL_law__452 (by decide) ?_
  refine lv_iadd hx hb dL_law__453 ?_
  refine va_sld (A := fun q => x ≤ q) hx hb hX hb0 hbA hL.2.2.2 h5 dL_law__454 ?_
  refine cl_M (av := [.int (xs (nI i + 1).toNatClampNeg), .int (xs (nI i + 2).toNatClampNeg), .int (xs (nI i + 3).toNatClampNeg), .int (xs (nI i + 4).toNatClampNeg), .int (xs (nI i + 5).toNatClampNeg)]) (rest := []) C hC hL (k_X11_begin l D a mo μ (xs (nI i + 1).toNatClampNeg) (xs (nI i + 2).toNatClampNeg) (xs (nI i + 3).toNatClampNeg) (xs (nI i + 4).toNatClampNeg) (xs (nI i + 5).toNatClampNeg) a3) cwm_142 (okR_of (F := R.frames) (L := R.locals) rfl rfl (by omega) (by omega)) rfl rfl hl.1 (Nat.le_of_ble_eq_true rfl) (by omega) (by omega) dL_law__455 (fun H2 locs2 hL => ?_)
  refine lv_aload_n hx hb dL_law__458 rfl (lv_at hl 3 rfl) ?_
  refine cl_R (av := []) (rest := []) C hL (k_X11_thrown l D a mo (f_X11_begin μ (xs (nI i + 1).toNatClampNeg) (xs (nI i + 2).toNatClampNeg) (xs (nI i + 3).toNatClampNeg) (xs (nI i + 4).toNatClampNeg) (xs (nI i + 5).toNatClampNeg))) cwm_128 (okR_of (F := R.frames) (L := R.locals) rfl rfl (by omega) (by omega)) rfl rfl hl.1 (Nat.le_of_ble_eq_true rfl) (by omega) (by omega) dL_law__459 ?_
  refine lv_iload hx hb dL_law__462 (lv_at hl 0 rfl) ?_
  refine lv_icmp_eq (tgt := 469) hx hb dL_law__464 (by decide) (fun _ => ?_) (fun c => absurd a4.1 c)
  refine lv_goto (tgt := 2214) hx hb dL_law__469 (by decide) ?_
  exact W.widen (k := cells + 10) (n := slots + 400) (by omega) (by omega) (hend _ _ _ _ _ ls hL a4.2 (lv_sub hl [1, 2, 3, 4, 5] rfl))
def Br_end (Rep : XS → Nat → MS → Prop) : Prop := ∀ (σ : XS) (x : Nat) (μ : MS) (p0 p1 p2 p3 : Int32), Rep σ x μ → (of_X10_end σ x p0 p1 p2 p3) ∧ (∀ nq k, FL_end σ x p0 p1 p2 p3 nq = .error k → k = 1 ∨ k = 2) ∧ (of_X11_end μ p0 p1 p2 p3) ∧ (∀ nq f, xk σ nq = 0 → nq ≠ 0 → f_X11_thrown (f_X11_end μ p0 p1 p2 p3).2 = (hR cd_end cvI (FL_end σ x p0 p1 p2 p3 nq) f σ).1 ∧ ((hR cd_end cvI (FL_end σ x p0 p1 p2 p3 nq) f σ).1 = 0 → (hR cd_end cvI (FL_end σ x p0 p1 p2 p3 nq) f σ).2.1 0 = ((f_X11_end μ p0 p1 p2 p3).1).toInt64) ∧ Rep (hR cd_end cvI (FL_end σ x p0 p1 p2 p3 nq) f σ).2.2 x (f_X11_end μ p0 p1 p2 p3).2)
set_option maxRecDepth 100000 in
theorem lawc_end (Rep : XS → Nat → MS → Prop) (br : Br_end Rep) {p : Program} {l : Launch} (hfl : l.stackTraces = false) {e : Env} {R : Room} {s : State} {m : MethodId} {args : Array Value} {below : List Frame} {meth : Method} {c : Code} {H : Heap} {locs : List Loc} {cells slots : Nat} {Q : State → Prop} {D : va_G} {a : Nat → ClassId} {x e0 mo oo b N i : Nat} {xs : Nat → Int32} {σ : XS} {μ : MS} {f : Nat → Int64} {ls : Array Slot} (C : Cx D a p s m args c cL_law_ 8 RL) (hC : LC s D a x e0 mo oo) (hX : va_X b N xs s s.heap) (hb0 : b < s.heap.size) (hN : N ≤ 3072) (hi : i + 6 ≤ N) (hRf : 12 ≤ R.frames) (hRl : 400 ≤ R.locals) (hRc : cells + 10 ≤ R.cells) (hRs : slots + 400 ≤ R.slots) (hL : LI s D a x e0 mo oo σ μ f H locs) (hRep : Rep σ x μ) (hl : lv_has ls 8 [(4, .int (nI i)), (3, .ref oo), (2, .ref mo), (1, .ref x), (0, .ref b)]) (hend : ∀ σ1 μ1 f1 H1 locs1 ls1, LI s D a x e0 mo oo σ1 μ1 f1 H1 locs1 → Rep σ1 x μ1 → lv_has ls1 8 [(4, .int (nI i)), (3, .ref oo), (2, .ref mo), (1, .ref x), (0, .ref b)] → W p l e R s m args below meth c H1 locs1 (cells + 10) (slots + 400) Q (F0 m 2214 ls1 [])) : W p l e R s m args below meth c H locs cells slots Q (F0 m 472 ls []) := by
  have hx := C.1.1
  have hb := C.1.2.1
  have hbA : ¬ x ≤ b := by rw [hC.1]; omega
  have h1 : vp_in (nI i + 1) N := by rw [show (1 : Int32) = nI 1 from rfl, nI_add]; exact nI_in (by omega) (by omega)
  have h2 : vp_in (nI i + 2) N := by rw [show (2 : Int32) = nI 2 from rfl, nI_add]; exact nI_in (by omega) (by omega)
  have h3 : vp_in (nI i + 3) N := by rw [show (3 : Int32) = nI 3 from rfl, nI_add]; exact nI_in (by omega) (by omega)
  have h4 : vp_in (nI i + 4) N := by rw [show (4 : Int32) = nI 4 from rfl, nI_add]; exact nI_in (by omega) (by omega)
  obtain ⟨a1, a2, a3, a4⟩ := br σ x μ (xs (nI i + 1).toNatClampNeg) (xs (nI i + 2).toNatClampNeg) (xs (nI i + 3).toNatClampNeg) (xs (nI i + 4).toNatClampNeg) hRep
  refine lv_aload_n hx hb dL_law__472 rfl (lv_at hl 3 rfl) ?_
  refine lv_aload_n hx hb dL_law__473 rfl (lv_at hl 4 rfl) ?_
  refine lv_iload hx hb dL_law__474 (lv_at hl 0 rfl) ?_
  refine lv_iconst (v := 1) hx hb dL_law__476 (by decide) ?_
  refine lv_iadd hx hb dL_law__477 ?_
  refine va_sld (A := fun q => x ≤ q) hx hb hX hb0 hbA hL.2.2.2 h1 dL_law__478 ?_
  refine lv_aload_n hx hb dL_law__479 rfl (lv_at hl 4 rfl) ?_
  refine lv_iload hx hb dL_law__480 (lv_at hl 0 rfl) ?_
  refine lv_iconst (v := 2) hx hb dL_law__482 (by decide) ?_
  refine lv_iadd hx hb dL_law__483 ?_
  refine va_sld (A := fun q => x ≤ q) hx hb hX hb0 hbA hL.2.2.2 h2 dL_law__484 ?_
  refine lv_aload_n hx hb dL_law__485 rfl (lv_at hl 4 rfl) ?_
  refine lv_iload hx hb dL_law__486 (lv_at hl 0 rfl) ?_
  refine lv_iconst (v := 3) hx hb dL_law__488 (by decide) ?_
  refine lv_iadd hx hb dL_law__489 ?_
  refine va_sld (A := fun q => x ≤ q) hx hb hX hb0 hbA hL.2.2.2 h3 dL_law__490 ?_
  refine lv_aload_n hx hb dL_law__491 rfl (lv_at hl 4 rfl) ?_
  refine lv_iload hx hb dL_law__492 (lv_at hl 0 rfl) ?_
  refine lv_iconst (v := 4) hx hb dL_law__494 (by decide) ?_
  refine lv_iadd hx hb dL_law__495 ?_
  refine va_sld (A := fun q => x ≤ q) hx hb hX hb0 hbA hL.2.2.2 h4 dL_law__496 ?_
  refine lv_aload_n hx hb dL_law__497 rfl (lv_at hl 1 rfl) ?_
  refine cl_H (av := [.ref x, .int (xs (nI i + 1).toNatClampNeg), .int (xs (nI i + 2).toNatClampNeg), .int (xs (nI i + 3).toNatClampNeg), .int (xs (nI i + 4).toNatClampNeg), .ref oo]) (rest := []) C hC hL (k_L_end l D a x e0 (AW x mo oo) hfl oo f σ (xs (nI i + 1).toNatClampNeg) (xs (nI i + 2).toNatClampNeg) (xs (nI i + 3).toNatClampNeg) (xs (nI i + 4).toNatClampNeg) a1 a2) cwh_end ⟨by omega, by omega⟩ rfl rfl hl.1 (Nat.le_of_ble_eq_true rfl) (by omega) (by omega) dL_law__498 (fun H1 locs1 Nq hq hq0 hL => ?_)
  have a4 := a4 Nq f hq hq0
  generalize hh9 : hR cd_end cvI (FL_end σ x (xs (nI i + 1).toNatClampNeg) (xs (nI i + 2).toNatClampNeg) (xs (nI i + 3).toNatClampNeg) (xs (nI i + 4).toNatClampNeg) Nq) f σ = h9 at hL a4 ⊢
  refine lv_istore (lv' := [(5, .int h9.1), (4, .int (nI i)), (3, .ref oo), (2, .ref mo), (1, .ref x), (0, .ref b)]) hx hb dL_law__501 hl (by decide) rfl (fun ls hl => ?_)
  refine lv_aload_n hx hb dL_law__503 rfl (lv_at hl 3 rfl) ?_
  refine lv_aload_n hx hb dL_law__504 rfl (lv_at hl 5 rfl) ?_
  refine lv_iload hx hb dL_law__505 (lv_at hl 1 rfl) ?_
  refine lv_iconst (v := 1) hx hb dL_law__507 (by decide) ?_
  refine lv_iadd hx hb dL_law__508 ?_
  refine va_sld (A := fun q => x ≤ q) hx hb hX hb0 hbA hL.2.2.2 h1 dL_law__509 ?_
  refine lv_aload_n hx hb dL_law__510 rfl (lv_at hl 5 rfl) ?_
  refine lv_iload hx hb dL_law__511 (lv_at hl 1 rfl) ?_
  refine lv_iconst (v := 2) hx hb dL_law__513 (by decide) ?_
  refine lv_iadd hx hb dL_law__514 ?_
  refine va_sld (A := fun q => x ≤ q) hx hb hX hb0 hbA hL.2.2.2 h2 dL_law__515 ?_
  refine lv_aload_n hx hb dL_law__516 rfl (lv_at hl 5 rfl) ?_
  refine lv_iload hx hb dL_law__517 (lv_at hl 1 rfl) ?_
  refine lv_iconst (v := 3) hx hb dL_law__519 (by decide) ?_
  refine lv_iadd hx hb dL_law__520 ?_
  refine va_sld (A := fun q => x ≤ q) hx hb hX hb0 hbA hL.2.2.2 h3 dL_law__521 ?_
  refine lv_aload_n hx hb dL_law__522 rfl (lv_at hl 5 rfl) ?_
  refine lv_iload hx hb dL_law__523 (lv_at hl 1 rfl) ?_
  refine lv_iconst (v := 4) hx hb dL_law__525 (by decide) ?_
  refine lv_iadd hx hb dL_law__526 ?_
  refine va_sld (A := fun q => x ≤ q) hx hb hX hb0 hbA hL.2.2.2 h4 dL_law__527 ?_
  refine cl_M (av := [.int (xs (nI i + 1).toNatClampNeg), .int (xs (nI i + 2).toNatClampNeg), .int (xs (nI i + 3).toNatClampNeg), .int (xs (nI i + 4).toNatClampNeg)]) (rest := []) C hC hL (k_X11_end l D a mo μ (xs (nI i + 1).toNatClampNeg) (xs (nI i + 2).toNatClampNeg) (xs (nI i + 3).toNatClampNeg) (xs (nI i + 4).toNatClampNeg) a3) cwm_146 (okR_of (F := R.frames) (L := R.locals) rfl rfl (by omega) (by omega)) rfl rfl hl.1 (Nat.le_of_ble_eq_true rfl) (by omega) (by omega) dL_law__528 (fun H2 locs2 hL => ?_)
  refine lv_istore (lv' := [(6, .int (f_X11_end μ (xs (nI i + 1).toNatClampNeg) (xs (nI i + 2).toNatClampNeg) (xs (nI i + 3).toNatClampNeg) (xs (nI i + 4).toNatClampNeg)).1), (5, .int h9.1), (4, .int (nI i)), (3, .ref oo), (2, .ref mo), (1, .ref x), (0, .ref b)]) hx hb dL_law__531 hl (by decide) rfl (fun ls hl => ?_)
  refine lv_aload_n hx hb dL_law__533 rfl (lv_at hl 4 rfl) ?_
  refine cl_R (av := []) (rest := []) C hL (k_X11_thrown l D a mo (f_X11_end μ (xs (nI i + 1).toNatClampNeg) (xs (nI i + 2).toNatClampNeg) (xs (nI i + 3).toNatClampNeg) (xs (nI i + 4).toNatClampNeg)).2) cwm_128 (okR_of (F := R.frames) (L := R.locals) rfl rfl (by omega) (by omega)) rfl rfl hl.1 (Nat.le_of_ble_eq_true rfl) (by omega) (by omega) dL_law__534 ?_
  refine lv_iload hx hb dL_law__537 (lv_at hl 1 rfl) ?_
  refine lv_icmp_eq (tgt := 544) hx hb dL_law__539 (by decide) (fun _ => ?_) (fun c => absurd a4.1 c)
  refine lv_iload hx hb dL_law__544 (lv_at hl 1 rfl) ?_
  refine lv_if_ne (tgt := 561) hx hb dL_law__546 (by decide) (fun _ => ?_) (fun c8 => ?_)
  · skip
    refine lv_goto (tgt := 2214) hx hb dL_law__561 (by decide) ?_
    exact W.widen (k := cells + 10) (n := slots + 400) (by omega) (by omega) (hend _ _ _ _ _ ls hL a4.2.2 (lv_sub hl [2, 3, 4, 5, 6] rfl))
  · have a5 := a4.2.1 c8
    refine lv_aload_n hx hb dL_law__549 rfl (lv_at hl 3 rfl) ?_
    refine lv_iconst (v := 0) hx hb dL_law__550 (by decide) ?_
    refine cl_out C hL dL_law__551 ?_
    refine lv_iload hx hb dL_law__552 (lv_at hl 0 rfl) ?_
    refine lv_i2l (v := ((f_X11_end μ (xs (nI i + 1).toNatClampNeg) (xs (nI i + 2).toNatClampNeg) (xs (nI i + 3).toNatClampNeg) (xs (nI i + 4).toNatClampNeg)).1).toInt64) hx hb dL_law__554 rfl ?_
    refine W.lcmp hx hb dL_law__555 ?_
    rw [a5]
    refine lv_if_eq (tgt := 561) hx hb dL_law__556 (by decide) (fun _ => ?_) (fun c => absurd (cmp_self _) c)
    refine lv_goto (tgt := 2214) hx hb dL_law__561 (by decide) ?_
    exact W.widen (k := cells + 10) (n := slots + 400) (by omega) (by omega) (hend _ _ _ _ _ ls hL a4.2.2 (lv_sub hl [2, 3, 4, 5, 6] rfl))
def Br_fireball (Rep : XS → Nat → MS → Prop) : Prop := ∀ (σ : XS) (x : Nat) (μ : MS) (p0 : Int32), Rep σ x μ → (of_X10_fireball σ x p0) ∧ (∀ nq k, FL_fireball σ x p0 nq = .error k → k = 3) ∧ (of_X11_fireball μ p0) ∧ (∀ nq f, xk σ nq = 0 → nq ≠ 0 → f_X11_thrown (f_X11_fireball μ p0).2 = (hR cd_fireball cvI (FL_fireball σ x p0 nq) f σ).1 ∧ ((hR cd_fireball cvI (FL_fireball σ x p0 nq) f σ).1 = 0 → (hR cd_fireball cvI (FL_fireball σ x p0 nq) f σ).2.1 0 = ((f_X11_fireball μ p0).1).toInt64) ∧ Rep (hR cd_fireball cvI (FL_fireball σ x p0 nq) f σ).2.2 x (f_X11_fireball μ p0).2)
set_option maxRecDepth 100000 in
theorem lawc_fireball (Rep : XS → Nat → MS → Prop) (br : Br_fireball Rep) {p : Program} {l : Launch} (hfl : l.stackTraces = false) {e : Env} {R : Room} {s : State} {m : MethodId} {args : Array Value} {below : List Frame} {meth : Method} {c : Code} {H : Heap} {locs : List Loc} {cells slots : Nat} {Q : State → Prop} {D : va_G} {a : Nat → ClassId} {x e0 mo oo b N i : Nat} {xs : Nat → Int32} {σ : XS} {μ : MS} {f : Nat → Int64} {ls : Array Slot} (C : Cx D a p s m args c cL_law_ 8 RL) (hC : LC s D a x e0 mo oo) (hX : va_X b N xs s s.heap) (hb0 : b < s.heap.size) (hN : N ≤ 3072) (hi : i + 6 ≤ N) (hRf : 12 ≤ R.frames) (hRl : 400 ≤ R.locals) (hRc : cells + 10 ≤ R.cells) (hRs : slots + 400 ≤ R.slots) (hL : LI s D a x e0 mo oo σ μ f H locs) (hRep : Rep σ x μ) (hl : lv_has ls 8 [(4, .int (nI i)), (3, .ref oo), (2, .ref mo), (1, .ref x), (0, .ref b)]) (hend : ∀ σ1 μ1 f1 H1 locs1 ls1, LI s D a x e0 mo oo σ1 μ1 f1 H1 locs1 → Rep σ1 x μ1 → lv_has ls1 8 [(4, .int (nI i)), (3, .ref oo), (2, .ref mo), (1, .ref x), (0, .ref b)] → W p l e R s m args below meth c H1 locs1 (cells + 10) (slots + 400) Q (F0 m 2214 ls1 [])) : W p l e R s m args below meth c H locs cells slots Q (F0 m 564 ls []) := by
  have hx := C.1.1
  have hb := C.1.2.1
  have hbA : ¬ x ≤ b := by rw [hC.1]; omega
  have h1 : vp_in (nI i + 1) N := by rw [show (1 : Int32) = nI 1 from rfl, nI_add]; exact nI_in (by omega) (by omega)
  obtain ⟨a1, a2, a3, a4⟩ := br σ x μ (xs (nI i + 1).toNatClampNeg) hRep
  refine lv_aload_n hx hb dL_law__564 rfl (lv_at hl 3 rfl) ?_
  refine lv_aload_n hx hb dL_law__565 rfl (lv_at hl 4 rfl) ?_
  refine lv_iload hx hb dL_law__566 (lv_at hl 0 rfl) ?_
  refine lv_iconst (v := 1) hx hb dL_law__568 (by decide) ?_
  refine lv_iadd hx hb dL_law__569 ?_
  refine va_sld (A := fun q => x ≤ q) hx hb hX hb0 hbA hL.2.2.2 h1 dL_law__570 ?_
  refine lv_aload_n hx hb dL_law__571 rfl (lv_at hl 1 rfl) ?_
  refine cl_H (av := [.ref x, .int (xs (nI i + 1).toNatClampNeg), .ref oo]) (rest := []) C hC hL (k_L_fireball l D a x e0 (AW x mo oo) hfl oo f σ (xs (nI i + 1).toNatClampNeg) a1 a2) cwh_fireball ⟨by omega, by omega⟩ rfl rfl hl.1 (Nat.le_of_ble_eq_true rfl) (by omega) (by omega) dL_law__572 (fun H1 locs1 Nq hq hq0 hL => ?_)
  have a4 := a4 Nq f hq hq0
  generalize hh9 : hR cd_fireball cvI (FL_fireball σ x (xs (nI i + 1).toNatClampNeg) Nq) f σ = h9 at hL a4 ⊢
  refine lv_istore (lv' := [(5, .int h9.1), (4, .int (nI i)), (3, .ref oo), (2, .ref mo), (1, .ref x), (0, .ref b)]) hx hb dL_law__575 hl (by decide) rfl (fun ls hl => ?_)
  refine lv_aload_n hx hb dL_law__577 rfl (lv_at hl 3 rfl) ?_
  refine lv_aload_n hx hb dL_law__578 rfl (lv_at hl 5 rfl) ?_
  refine lv_iload hx hb dL_law__579 (lv_at hl 1 rfl) ?_
  refine lv_iconst (v := 1) hx hb dL_law__581 (by decide) ?_
  refine lv_iadd hx hb dL_law__582 ?_
  refine va_sld (A := fun q => x ≤ q) hx hb hX hb0 hbA hL.2.2.2 h1 dL_law__583 ?_
  refine cl_M (av := [.int (xs (nI i + 1).toNatClampNeg)]) (rest := []) C hC hL (k_X11_fireball l D a mo μ (xs (nI i + 1).toNatClampNeg) a3) cwm_150 (okR_of (F := R.frames) (L := R.locals) rfl rfl (by omega) (by omega)) rfl rfl hl.1 (Nat.le_of_ble_eq_true rfl) (by omega) (by omega) dL_law__584 (fun H2 locs2 hL => ?_)
  refine lv_istore (lv' := [(6, .int (f_X11_fireball μ (xs (nI i + 1).toNatClampNeg)).1), (5, .int h9.1), (4, .int (nI i)), (3, .ref oo), (2, .ref mo), (1, .ref x), (0, .ref b)]) hx hb dL_law__587 hl (by decide) rfl (fun ls hl => ?_)
  refine lv_aload_n hx hb dL_law__589 rfl (lv_at hl 4 rfl) ?_
  refine cl_R (av := []) (rest := []) C hL (k_X11_thrown l D a mo (f_X11_fireball μ (xs (nI i + 1).toNatClampNeg)).2) cwm_128 (okR_of (F := R.frames) (L := R.locals) rfl rfl (by omega) (by omega)) rfl rfl hl.1 (Nat.le_of_ble_eq_true rfl) (by omega) (by omega) dL_law__590 ?_
  refine lv_iload hx hb dL_law__593 (lv_at hl 1 rfl) ?_
  refine lv_icmp_eq (tgt := 600) hx hb dL_law__595 (by decide) (fun _ => ?_) (fun c => absurd a4.1 c)
  refine lv_iload hx hb dL_law__600 (lv_at hl 1 rfl) ?_
  refine lv_if_ne (tgt := 617) hx hb dL_law__602 (by decide) (fun _ => ?_) (fun c8 => ?_)
  · skip
    refine lv_goto (tgt := 2214) hx hb dL_law__617 (by decide) ?_
    exact W.widen (k := cells + 10) (n := slots + 400) (by omega) (by omega) (hend _ _ _ _ _ ls hL a4.2.2 (lv_sub hl [2, 3, 4, 5, 6] rfl))
  · have a5 := a4.2.1 c8
    refine lv_aload_n hx hb dL_law__605 rfl (lv_at hl 3 rfl) ?_
    refine lv_iconst (v := 0) hx hb dL_law__606 (by decide) ?_
    refine cl_out C hL dL_law__607 ?_
    refine lv_iload hx hb dL_law__608 (lv_at hl 0 rfl) ?_
    refine lv_i2l (v := ((f_X11_fireball μ (xs (nI i + 1).toNatClampNeg)).1).toInt64) hx hb dL_law__610 rfl ?_
    refine W.lcmp hx hb dL_law__611 ?_
    rw [a5]
    refine lv_if_eq (tgt := 617) hx hb dL_law__612 (by decide) (fun _ => ?_) (fun c => absurd (cmp_self _) c)
    refine lv_goto (tgt := 2214) hx hb dL_law__617 (by decide) ?_
    exact W.widen (k := cells + 10) (n := slots + 400) (by omega) (by omega) (hend _ _ _ _ _ ls hL a4.2.2 (lv_sub hl [2, 3, 4, 5, 6] rfl))
def Br_fireballAnew (Rep : XS → Nat → MS → Prop) : Prop := ∀ (σ : XS) (x : Nat) (μ : MS) (p0 : Int32), Rep σ x μ → (of_X10_fireballAnew σ x p0) ∧ (∀ nq k, FL_fireballAnew σ x p0 nq = .error k → k = 3) ∧ (of_X11_fireballAnew μ p0) ∧ (∀ nq f, xk σ nq = 0 → nq ≠ 0 → f_X11_thrown (f_X11_fireballAnew μ p0).2 = (hR cd_fireballAnew cvI (FL_fireballAnew σ x p0 nq) f σ).1 ∧ ((hR cd_fireballAnew cvI (FL_fireballAnew σ x p0 nq) f σ).1 = 0 → (hR cd_fireballAnew cvI (FL_fireballAnew σ x p0 nq) f σ).2.1 0 = ((f_X11_fireballAnew μ p0).1).toInt64) ∧ Rep (hR cd_fireballAnew cvI (FL_fireballAnew σ x p0 nq) f σ).2.2 x (f_X11_fireballAnew μ p0).2)
set_option maxRecDepth 100000 in
theorem lawc_fireballAnew (Rep : XS → Nat → MS → Prop) (br : Br_fireballAnew Rep) {p : Program} {l : Launch} (hfl : l.stackTraces = false) {e : Env} {R : Room} {s : State} {m : MethodId} {args : Array Value} {below : List Frame} {meth : Method} {c : Code} {H : Heap} {locs : List Loc} {cells slots : Nat} {Q : State → Prop} {D : va_G} {a : Nat → ClassId} {x e0 mo oo b N i : Nat} {xs : Nat → Int32} {σ : XS} {μ : MS} {f : Nat → Int64} {ls : Array Slot} (C : Cx D a p s m args c cL_law_ 8 RL) (hC : LC s D a x e0 mo oo) (hX : va_X b N xs s s.heap) (hb0 : b < s.heap.size) (hN : N ≤ 3072) (hi : i + 6 ≤ N) (hRf : 12 ≤ R.frames) (hRl : 400 ≤ R.locals) (hRc : cells + 10 ≤ R.cells) (hRs : slots + 400 ≤ R.slots) (hL : LI s D a x e0 mo oo σ μ f H locs) (hRep : Rep σ x μ) (hl : lv_has ls 8 [(4, .int (nI i)), (3, .ref oo), (2, .ref mo), (1, .ref x), (0, .ref b)]) (hend : ∀ σ1 μ1 f1 H1 locs1 ls1, LI s D a x e0 mo oo σ1 μ1 f1 H1 locs1 → Rep σ1 x μ1 → lv_has ls1 8 [(4, .int (nI i)), (3, .ref oo), (2, .ref mo), (1, .ref x), (0, .ref b)] → W p l e R s m args below meth c H1 locs1 (cells + 10) (slots + 400) Q (F0 m 2214 ls1 [])) : W p l e R s m args below meth c H locs cells slots Q (F0 m 620 ls []) := by
  have hx := C.1.1
  have hb := C.1.2.1
  have hbA : ¬ x ≤ b := by rw [hC.1]; omega
  have h1 : vp_in (nI i + 1) N := by rw [show (1 : Int32) = nI 1 from rfl, nI_add]; exact nI_in (by omega) (by omega)
  obtain ⟨a1, a2, a3, a4⟩ := br σ x μ (xs (nI i + 1).toNatClampNeg) hRep
  refine lv_aload_n hx hb dL_law__620 rfl (lv_at hl 3 rfl) ?_
  refine lv_aload_n hx hb dL_law__621 rfl (lv_at hl 4 rfl) ?_
  refine lv_iload hx hb dL_law__622 (lv_at hl 0 rfl) ?_
  refine lv_iconst (v := 1) hx hb dL_law__624 (by decide) ?_
  refine lv_iadd hx hb dL_law__625 ?_
  refine va_sld (A := fun q => x ≤ q) hx hb hX hb0 hbA hL.2.2.2 h1 dL_law__626 ?_
  refine lv_aload_n hx hb dL_law__627 rfl (lv_at hl 1 rfl) ?_
  refine cl_H (av := [.ref x, .int (xs (nI i + 1).toNatClampNeg), .ref oo]) (rest := []) C hC hL (k_L_fireballAnew l D a x e0 (AW x mo oo) hfl oo f σ (xs (nI i + 1).toNatClampNeg) a1 a2) cwh_fireballAnew ⟨by omega, by omega⟩ rfl rfl hl.1 (Nat.le_of_ble_eq_true rfl) (by omega) (by omega) dL_law__628 (fun H1 locs1 Nq hq hq0 hL => ?_)
  have a4 := a4 Nq f hq hq0
  generalize hh9 : hR cd_fireballAnew cvI (FL_fireballAnew σ x (xs (nI i + 1).toNatClampNeg) Nq) f σ = h9 at hL a4 ⊢
  refine lv_istore (lv' := [(5, .int h9.1), (4, .int (nI i)), (3, .ref oo), (2, .ref mo), (1, .ref x), (0, .ref b)]) hx hb dL_law__631 hl (by decide) rfl (fun ls hl => ?_)
  refine lv_aload_n hx hb dL_law__633 rfl (lv_at hl 3 rfl) ?_
  refine lv_aload_n hx hb dL_law__634 rfl (lv_at hl 5 rfl) ?_
  refine lv_iload hx hb dL_law__635 (lv_at hl 1 rfl) ?_
  refine lv_iconst (v := 1) hx hb dL_law__637 (by decide) ?_
  refine lv_iadd hx hb dL_law__638 ?_
  refine va_sld (A := fun q => x ≤ q) hx hb hX hb0 hbA hL.2.2.2 h1 dL_law__639 ?_
  refine cl_M (av := [.int (xs (nI i + 1).toNatClampNeg)]) (rest := []) C hC hL (k_X11_fireballAnew l D a mo μ (xs (nI i + 1).toNatClampNeg) a3) cwm_153 (okR_of (F := R.frames) (L := R.locals) rfl rfl (by omega) (by omega)) rfl rfl hl.1 (Nat.le_of_ble_eq_true rfl) (by omega) (by omega) dL_law__640 (fun H2 locs2 hL => ?_)
  refine lv_istore (lv' := [(6, .int (f_X11_fireballAnew μ (xs (nI i + 1).toNatClampNeg)).1), (5, .int h9.1), (4, .int (nI i)), (3, .ref oo), (2, .ref mo), (1, .ref x), (0, .ref b)]) hx hb dL_law__643 hl (by decide) rfl (fun ls hl => ?_)
  refine lv_aload_n hx hb dL_law__645 rfl (lv_at hl 4 rfl) ?_
  refine cl_R (av := []) (rest := []) C hL (k_X11_thrown l D a mo (f_X11_fireballAnew μ (xs (nI i + 1).toNatClampNeg)).2) cwm_128 (okR_of (F := R.frames) (L := R.locals) rfl rfl (by omega) (by omega)) rfl rfl hl.1 (Nat.le_of_ble_eq_true rfl) (by omega) (by omega) dL_law__646 ?_
  refine lv_iload hx hb dL_law__649 (lv_at hl 1 rfl) ?_
  refine lv_icmp_eq (tgt := 656) hx hb dL_law__651 (by decide) (fun _ => ?_) (fun c => absurd a4.1 c)
  refine lv_iload hx hb dL_law__656 (lv_at hl 1 rfl) ?_
  refine lv_if_ne (tgt := 673) hx hb dL_law__658 (by decide) (fun _ => ?_) (fun c8 => ?_)
  · skip
    refine lv_goto (tgt := 2214) hx hb dL_law__673 (by decide) ?_
    exact W.widen (k := cells + 10) (n := slots + 400) (by omega) (by omega) (hend _ _ _ _ _ ls hL a4.2.2 (lv_sub hl [2, 3, 4, 5, 6] rfl))
  · have a5 := a4.2.1 c8
    refine lv_aload_n hx hb dL_law__661 rfl (lv_at hl 3 rfl) ?_
    refine lv_iconst (v := 0) hx hb dL_law__662 (by decide) ?_
    refine cl_out C hL dL_law__663 ?_
    refine lv_iload hx hb dL_law__664 (lv_at hl 0 rfl) ?_
    refine lv_i2l (v := ((f_X11_fireballAnew μ (xs (nI i + 1).toNatClampNeg)).1).toInt64) hx hb dL_law__666 rfl ?_
    refine W.lcmp hx hb dL_law__667 ?_
    rw [a5]
    refine lv_if_eq (tgt := 673) hx hb dL_law__668 (by decide) (fun _ => ?_) (fun c => absurd (cmp_self _) c)
    refine lv_goto (tgt := 2214) hx hb dL_law__673 (by decide) ?_
    exact W.widen (k := cells + 10) (n := slots + 400) (by omega) (by omega) (hend _ _ _ _ _ ls hL a4.2.2 (lv_sub hl [2, 3, 4, 5, 6] rfl))
def Br_fireballs (Rep : XS → Nat → MS → Prop) : Prop := ∀ (σ : XS) (x : Nat) (μ : MS) (p0 : Int32), Rep σ x μ → (of_X10_fireballs σ x p0) ∧ (∀ nq k, FL_fireballs σ x p0 nq = .error k → k = 1) ∧ (of_X11_fireballs μ p0) ∧ (∀ nq f, xk σ nq = 0 → nq ≠ 0 → f_X11_thrown (f_X11_fireballs μ p0).2 = (hR cd_fireballs cvI (FL_fireballs σ x p0 nq) f σ).1 ∧ ((hR cd_fireballs cvI (FL_fireballs σ x p0 nq) f σ).1 = 0 → (hR cd_fireballs cvI (FL_fireballs σ x p0 nq) f σ).2.1 0 = ((f_X11_fireballs μ p0).1).toInt64) ∧ Rep (hR cd_fireballs cvI (FL_fireballs σ x p0 nq) f σ).2.2 x (f_X11_fireballs μ p0).2)
set_option maxRecDepth 100000 in
theorem lawc_fireballs (Rep : XS → Nat → MS → Prop) (br : Br_fireballs Rep) {p : Program} {l : Launch} (hfl : l.stackTraces = false) {e : Env} {R : Room} {s : State} {m : MethodId} {args : Array Value} {below : List Frame} {meth : Method} {c : Code} {H : Heap} {locs : List Loc} {cells slots : Nat} {Q : State → Prop} {D : va_G} {a : Nat → ClassId} {x e0 mo oo b N i : Nat} {xs : Nat → Int32} {σ : XS} {μ : MS} {f : Nat → Int64} {ls : Array Slot} (C : Cx D a p s m args c cL_law_ 8 RL) (hC : LC s D a x e0 mo oo) (hX : va_X b N xs s s.heap) (hb0 : b < s.heap.size) (hN : N ≤ 3072) (hi : i + 6 ≤ N) (hRf : 12 ≤ R.frames) (hRl : 400 ≤ R.locals) (hRc : cells + 10 ≤ R.cells) (hRs : slots + 400 ≤ R.slots) (hL : LI s D a x e0 mo oo σ μ f H locs) (hRep : Rep σ x μ) (hl : lv_has ls 8 [(4, .int (nI i)), (3, .ref oo), (2, .ref mo), (1, .ref x), (0, .ref b)]) (hend : ∀ σ1 μ1 f1 H1 locs1 ls1, LI s D a x e0 mo oo σ1 μ1 f1 H1 locs1 → Rep σ1 x μ1 → lv_has ls1 8 [(4, .int (nI i)), (3, .ref oo), (2, .ref mo), (1, .ref x), (0, .ref b)] → W p l e R s m args below meth c H1 locs1 (cells + 10) (slots + 400) Q (F0 m 2214 ls1 [])) : W p l e R s m args below meth c H locs cells slots Q (F0 m 676 ls []) := by
  have hx := C.1.1
  have hb := C.1.2.1
  have hbA : ¬ x ≤ b := by rw [hC.1]; omega
  have h1 : vp_in (nI i + 1) N := by rw [show (1 : Int32) = nI 1 from rfl, nI_add]; exact nI_in (by omega) (by omega)
  obtain ⟨a1, a2, a3, a4⟩ := br σ x μ (xs (nI i + 1).toNatClampNeg) hRep
  refine lv_aload_n hx hb dL_law__676 rfl (lv_at hl 3 rfl) ?_
  refine lv_aload_n hx hb dL_law__677 rfl (lv_at hl 4 rfl) ?_
  refine lv_iload hx hb dL_law__678 (lv_at hl 0 rfl) ?_
  refine lv_iconst (v := 1) hx hb dL_law__680 (by decide) ?_
  refine lv_iadd hx hb dL_law__681 ?_
  refine va_sld (A := fun q => x ≤ q) hx hb hX hb0 hbA hL.2.2.2 h1 dL_law__682 ?_
  refine lv_aload_n hx hb dL_law__683 rfl (lv_at hl 1 rfl) ?_
  refine cl_H (av := [.ref x, .int (xs (nI i + 1).toNatClampNeg), .ref oo]) (rest := []) C hC hL (k_L_fireballs l D a x e0 (AW x mo oo) hfl oo f σ (xs (nI i + 1).toNatClampNeg) a1 a2) cwh_fireballs ⟨by omega, by omega⟩ rfl rfl hl.1 (Nat.le_of_ble_eq_true rfl) (by omega) (by omega) dL_law__684 (fun H1 locs1 Nq hq hq0 hL => ?_)
  have a4 := a4 Nq f hq hq0
  generalize hh9 : hR cd_fireballs cvI (FL_fireballs σ x (xs (nI i + 1).toNatClampNeg) Nq) f σ = h9 at hL a4 ⊢
  refine lv_istore (lv' := [(5, .int h9.1), (4, .int (nI i)), (3, .ref oo), (2, .ref mo), (1, .ref x), (0, .ref b)]) hx hb dL_law__687 hl (by decide) rfl (fun ls hl => ?_)
  refine lv_aload_n hx hb dL_law__689 rfl (lv_at hl 3 rfl) ?_
  refine lv_aload_n hx hb dL_law__690 rfl (lv_at hl 5 rfl) ?_
  refine lv_iload hx hb dL_law__691 (lv_at hl 1 rfl) ?_
  refine lv_iconst (v := 1) hx hb dL_law__693 (by decide) ?_
  refine lv_iadd hx hb dL_law__694 ?_
  refine va_sld (A := fun q => x ≤ q) hx hb hX hb0 hbA hL.2.2.2 h1 dL_law__695 ?_
  refine cl_M (av := [.int (xs (nI i + 1).toNatClampNeg)]) (rest := []) C hC hL (k_X11_fireballs l D a mo μ (xs (nI i + 1).toNatClampNeg) a3) cwm_156 (okR_of (F := R.frames) (L := R.locals) rfl rfl (by omega) (by omega)) rfl rfl hl.1 (Nat.le_of_ble_eq_true rfl) (by omega) (by omega) dL_law__696 (fun H2 locs2 hL => ?_)
  refine lv_istore (lv' := [(6, .int (f_X11_fireballs μ (xs (nI i + 1).toNatClampNeg)).1), (5, .int h9.1), (4, .int (nI i)), (3, .ref oo), (2, .ref mo), (1, .ref x), (0, .ref b)]) hx hb dL_law__699 hl (by decide) rfl (fun ls hl => ?_)
  refine lv_aload_n hx hb dL_law__701 rfl (lv_at hl 4 rfl) ?_
  refine cl_R (av := []) (rest := []) C hL (k_X11_thrown l D a mo (f_X11_fireballs μ (xs (nI i + 1).toNatClampNeg)).2) cwm_128 (okR_of (F := R.frames) (L := R.locals) rfl rfl (by omega) (by omega)) rfl rfl hl.1 (Nat.le_of_ble_eq_true rfl) (by omega) (by omega) dL_law__702 ?_
  refine lv_iload hx hb dL_law__705 (lv_at hl 1 rfl) ?_
  refine lv_icmp_eq (tgt := 712) hx hb dL_law__707 (by decide) (fun _ => ?_) (fun c => absurd a4.1 c)
  refine lv_iload hx hb dL_law__712 (lv_at hl 1 rfl) ?_
  refine lv_if_ne (tgt := 729) hx hb dL_law__714 (by decide) (fun _ => ?_) (fun c8 => ?_)
  · skip
    refine lv_goto (tgt := 2214) hx hb dL_law__729 (by decide) ?_
    exact W.widen (k := cells + 10) (n := slots + 400) (by omega) (by omega) (hend _ _ _ _ _ ls hL a4.2.2 (lv_sub hl [2, 3, 4, 5, 6] rfl))
  · have a5 := a4.2.1 c8
    refine lv_aload_n hx hb dL_law__717 rfl (lv_at hl 3 rfl) ?_
    refine lv_iconst (v := 0) hx hb dL_law__718 (by decide) ?_
    refine cl_out C hL dL_law__719 ?_
    refine lv_iload hx hb dL_law__720 (lv_at hl 0 rfl) ?_
    refine lv_i2l (v := ((f_X11_fireballs μ (xs (nI i + 1).toNatClampNeg)).1).toInt64) hx hb dL_law__722 rfl ?_
    refine W.lcmp hx hb dL_law__723 ?_
    rw [a5]
    refine lv_if_eq (tgt := 729) hx hb dL_law__724 (by decide) (fun _ => ?_) (fun c => absurd (cmp_self _) c)
    refine lv_goto (tgt := 2214) hx hb dL_law__729 (by decide) ?_
    exact W.widen (k := cells + 10) (n := slots + 400) (by omega) (by omega) (hend _ _ _ _ _ ls hL a4.2.2 (lv_sub hl [2, 3, 4, 5, 6] rfl))
def Br_told (Rep : XS → Nat → MS → Prop) : Prop := ∀ (σ : XS) (x : Nat) (μ : MS) (p0 p1 : Int32), Rep σ x μ → (of_X10_told σ x p0 p1) ∧ (∀ nq k, FL_told σ x p0 p1 nq = .error k → k = 3 ∨ k = 1) ∧ (of_X11_told μ p0 p1) ∧ (∀ nq f, xk σ nq = 0 → nq ≠ 0 → f_X11_thrown (f_X11_told μ p0 p1).2 = (hR cd_told cvL (FL_told σ x p0 p1 nq) f σ).1 ∧ ((hR cd_told cvL (FL_told σ x p0 p1 nq) f σ).1 = 0 → (hR cd_told cvL (FL_told σ x p0 p1 nq) f σ).2.1 0 = (f_X11_told μ p0 p1).1) ∧ Rep (hR cd_told cvL (FL_told σ x p0 p1 nq) f σ).2.2 x (f_X11_told μ p0 p1).2)
set_option maxRecDepth 100000 in
theorem lawc_told (Rep : XS → Nat → MS → Prop) (br : Br_told Rep) {p : Program} {l : Launch} (hfl : l.stackTraces = false) {e : Env} {R : Room} {s : State} {m : MethodId} {args : Array Value} {below : List Frame} {meth : Method} {c : Code} {H : Heap} {locs : List Loc} {cells slots : Nat} {Q : State → Prop} {D : va_G} {a : Nat → ClassId} {x e0 mo oo b N i : Nat} {xs : Nat → Int32} {σ : XS} {μ : MS} {f : Nat → Int64} {ls : Array Slot} (C : Cx D a p s m args c cL_law_ 8 RL) (hC : LC s D a x e0 mo oo) (hX : va_X b N xs s s.heap) (hb0 : b < s.heap.size) (hN : N ≤ 3072) (hi : i + 6 ≤ N) (hRf : 12 ≤ R.frames) (hRl : 400 ≤ R.locals) (hRc : cells + 10 ≤ R.cells) (hRs : slots + 400 ≤ R.slots) (hL : LI s D a x e0 mo oo σ μ f H locs) (hRep : Rep σ x μ) (hl : lv_has ls 8 [(4, .int (nI i)), (3, .ref oo), (2, .ref mo), (1, .ref x), (0, .ref b)]) (hend : ∀ σ1 μ1 f1 H1 locs1 ls1, LI s D a x e0 mo oo σ1 μ1 f1 H1 locs1 → Rep σ1 x μ1 → lv_has ls1 8 [(4, .int (nI i)), (3, .ref oo), (2, .ref mo), (1, .ref x), (0, .ref b)] → W p l e R s m args below meth c H1 locs1 (cells + 10) (slots + 400) Q (F0 m 2214 ls1 [])) : W p l e R s m args below meth c H locs cells slots Q (F0 m 732 ls []) := by
  have hx := C.1.1
  have hb := C.1.2.1
  have hbA : ¬ x ≤ b := by rw [hC.1]; omega
  have h1 : vp_in (nI i + 1) N := by rw [show (1 : Int32) = nI 1 from rfl, nI_add]; exact nI_in (by omega) (by omega)
  have h2 : vp_in (nI i + 2) N := by rw [show (2 : Int32) = nI 2 from rfl, nI_add]; exact nI_in (by omega) (by omega)
  obtain ⟨a1, a2, a3, a4⟩ := br σ x μ (xs (nI i + 1).toNatClampNeg) (xs (nI i + 2).toNatClampNeg) hRep
  refine lv_aload_n hx hb dL_law__732 rfl (lv_at hl 3 rfl) ?_
  refine lv_aload_n hx hb dL_law__733 rfl (lv_at hl 4 rfl) ?_
  refine lv_iload hx hb dL_law__734 (lv_at hl 0 rfl) ?_
  refine lv_iconst (v := 1) hx hb dL_law__736 (by decide) ?_
  refine lv_iadd hx hb dL_law__737 ?_
  refine va_sld (A := fun q => x ≤ q) hx hb hX hb0 hbA hL.2.2.2 h1 dL_law__738 ?_
  refine lv_aload_n hx hb dL_law__739 rfl (lv_at hl 4 rfl) ?_
  refine lv_iload hx hb dL_law__740 (lv_at hl 0 rfl) ?_
  refine lv_iconst (v := 2) hx hb dL_law__742 (by decide) ?_
  refine lv_iadd hx hb dL_law__743 ?_
  refine va_sld (A := fun q => x ≤ q) hx hb hX hb0 hbA hL.2.2.2 h2 dL_law__744 ?_
  refine lv_aload_n hx hb dL_law__745 rfl (lv_at hl 1 rfl) ?_
  refine cl_H (av := [.ref x, .int (xs (nI i + 1).toNatClampNeg), .int (xs (nI i + 2).toNatClampNeg), .ref oo]) (rest := []) C hC hL (k_L_told l D a x e0 (AW x mo oo) hfl oo f σ (xs (nI i + 1).toNatClampNeg) (xs (nI i + 2).toNatClampNeg) a1 a2) cwh_told ⟨by omega, by omega⟩ rfl rfl hl.1 (Nat.le_of_ble_eq_true rfl) (by omega) (by omega) dL_law__746 (fun H1 locs1 Nq hq hq0 hL => ?_)
  have a4 := a4 Nq f hq hq0
  generalize hh9 : hR cd_told cvL (FL_told σ x (xs (nI i + 1).toNatClampNeg) (xs (nI i + 2).toNatClampNeg) Nq) f σ = h9 at hL a4 ⊢
  refine lv_istore (lv' := [(5, .int h9.1), (4, .int (nI i)), (3, .ref oo), (2, .ref mo), (1, .ref x), (0, .ref b)]) hx hb dL_law__749 hl (by decide) rfl (fun ls hl => ?_)
  refine lv_aload_n hx hb dL_law__751 rfl (lv_at hl 3 rfl) ?_
  refine lv_aload_n hx hb dL_law__752 rfl (lv_at hl 5 rfl) ?_
  refine lv_iload hx hb dL_law__753 (lv_at hl 1 rfl) ?_
  refine lv_iconst (v := 1) hx hb dL_law__755 (by decide) ?_
  refine lv_iadd hx hb dL_law__756 ?_
  refine va_sld (A := fun q => x ≤ q) hx hb hX hb0 hbA hL.2.2.2 h1 dL_law__757 ?_
  refine lv_aload_n hx hb dL_law__758 rfl (lv_at hl 5 rfl) ?_
  refine lv_iload hx hb dL_law__759 (lv_at hl 1 rfl) ?_
  refine lv_iconst (v := 2) hx hb dL_law__761 (by decide) ?_
  refine lv_iadd hx hb dL_law__762 ?_
  refine va_sld (A := fun q => x ≤ q) hx hb hX hb0 hbA hL.2.2.2 h2 dL_law__763 ?_
  refine cl_M (av := [.int (xs (nI i + 1).toNatClampNeg), .int (xs (nI i + 2).toNatClampNeg)]) (rest := []) C hC hL (k_X11_told l D a mo μ (xs (nI i + 1).toNatClampNeg) (xs (nI i + 2).toNatClampNeg) a3) cwm_159 (okR_of (F := R.frames) (L := R.locals) rfl rfl (by omega) (by omega)) rfl rfl hl.1 (Nat.le_of_ble_eq_true rfl) (by omega) (by omega) dL_law__764 (fun H2 locs2 hL => ?_)
  refine lv_lstore (lv' := [(6, .long (f_X11_told μ (xs (nI i + 1).toNatClampNeg) (xs (nI i + 2).toNatClampNeg)).1), (5, .int h9.1), (4, .int (nI i)), (3, .ref oo), (2, .ref mo), (1, .ref x), (0, .ref b)]) hx hb dL_law__767 hl (by decide) rfl (fun ls hl => ?_)
  refine lv_aload_n hx hb dL_law__769 rfl (lv_at hl 4 rfl) ?_
  refine cl_R (av := []) (rest := []) C hL (k_X11_thrown l D a mo (f_X11_told μ (xs (nI i + 1).toNatClampNeg) (xs (nI i + 2).toNatClampNeg)).2) cwm_128 (okR_of (F := R.frames) (L := R.locals) rfl rfl (by omega) (by omega)) rfl rfl hl.1 (Nat.le_of_ble_eq_true rfl) (by omega) (by omega) dL_law__770 ?_
  refine lv_iload hx hb dL_law__773 (lv_at hl 1 rfl) ?_
  refine lv_icmp_eq (tgt := 780) hx hb dL_law__775 (by decide) (fun _ => ?_) (fun c => absurd a4.1 c)
  refine lv_iload hx hb dL_law__780 (lv_at hl 1 rfl) ?_
  refine lv_if_ne (tgt := 796) hx hb dL_law__782 (by decide) (fun _ => ?_) (fun c8 => ?_)
  · skip
    refine lv_goto (tgt := 2214) hx hb dL_law__796 (by decide) ?_
    exact W.widen (k := cells + 10) (n := slots + 400) (by omega) (by omega) (hend _ _ _ _ _ ls hL a4.2.2 (lv_sub hl [2, 3, 4, 5, 6] rfl))
  · have a5 := a4.2.1 c8
    refine lv_aload_n hx hb dL_law__785 rfl (lv_at hl 3 rfl) ?_
    refine lv_iconst (v := 0) hx hb dL_law__786 (by decide) ?_
    refine cl_out C hL dL_law__787 ?_
    refine lv_lload hx hb dL_law__788 (lv_at hl 0 rfl) ?_
    refine W.lcmp hx hb dL_law__790 ?_
    rw [a5]
    refine lv_if_eq (tgt := 796) hx hb dL_law__791 (by decide) (fun _ => ?_) (fun c => absurd (cmp_self _) c)
    refine lv_goto (tgt := 2214) hx hb dL_law__796 (by decide) ?_
    exact W.widen (k := cells + 10) (n := slots + 400) (by omega) (by omega) (hend _ _ _ _ _ ls hL a4.2.2 (lv_sub hl [2, 3, 4, 5, 6] rfl))
def Br_stream (Rep : XS → Nat → MS → Prop) : Prop := ∀ (σ : XS) (x : Nat) (μ : MS) (p0 p1 : Int32), Rep σ x μ → (of_X10_stream σ x p0 p1) ∧ (∀ nq k, FL_stream σ x p0 p1 nq = .error k → k = 3) ∧ (of_X11_stream μ p0 p1) ∧ (∀ nq f, xk σ nq = 0 → nq ≠ 0 → f_X11_thrown (f_X11_stream μ p0 p1).2 = (hR cd_stream cvZ (FL_stream σ x p0 p1 nq) f σ).1 ∧ ((hR cd_stream cvZ (FL_stream σ x p0 p1 nq) f σ).1 = 0 → (hR cd_stream cvZ (FL_stream σ x p0 p1 nq) f σ).2.1 0 = (if (f_X11_stream μ p0 p1).1 = 0 then 0 else 1)) ∧ Rep (hR cd_stream cvZ (FL_stream σ x p0 p1 nq) f σ).2.2 x (f_X11_stream μ p0 p1).2)
set_option maxRecDepth 100000 in
theorem lawc_stream (Rep : XS → Nat → MS → Prop) (br : Br_stream Rep) {p : Program} {l : Launch} (hfl : l.stackTraces = false) {e : Env} {R : Room} {s : State} {m : MethodId} {args : Array Value} {below : List Frame} {meth : Method} {c : Code} {H : Heap} {locs : List Loc} {cells slots : Nat} {Q : State → Prop} {D : va_G} {a : Nat → ClassId} {x e0 mo oo b N i : Nat} {xs : Nat → Int32} {σ : XS} {μ : MS} {f : Nat → Int64} {ls : Array Slot} (C : Cx D a p s m args c cL_law_ 8 RL) (hC : LC s D a x e0 mo oo) (hX : va_X b N xs s s.heap) (hb0 : b < s.heap.size) (hN : N ≤ 3072) (hi : i + 6 ≤ N) (hRf : 12 ≤ R.frames) (hRl : 400 ≤ R.locals) (hRc : cells + 10 ≤ R.cells) (hRs : slots + 400 ≤ R.slots) (hL : LI s D a x e0 mo oo σ μ f H locs) (hRep : Rep σ x μ) (hl : lv_has ls 8 [(4, .int (nI i)), (3, .ref oo), (2, .ref mo), (1, .ref x), (0, .ref b)]) (hend : ∀ σ1 μ1 f1 H1 locs1 ls1, LI s D a x e0 mo oo σ1 μ1 f1 H1 locs1 → Rep σ1 x μ1 → lv_has ls1 8 [(4, .int (nI i)), (3, .ref oo), (2, .ref mo), (1, .ref x), (0, .ref b)] → W p l e R s m args below meth c H1 locs1 (cells + 10) (slots + 400) Q (F0 m 2214 ls1 [])) : W p l e R s m args below meth c H locs cells slots Q (F0 m 799 ls []) := by
  have hx := C.1.1
  have hb := C.1.2.1
  have hbA : ¬ x ≤ b := by rw [hC.1]; omega
  have h1 : vp_in (nI i + 1) N := by rw [show (1 : Int32) = nI 1 from rfl, nI_add]; exact nI_in (by omega) (by omega)
  have h2 : vp_in (nI i + 2) N := by rw [show (2 : Int32) = nI 2 from rfl, nI_add]; exact nI_in (by omega) (by omega)
  obtain ⟨a1, a2, a3, a4⟩ := br σ x μ (xs (nI i + 1).toNatClampNeg) (xs (nI i + 2).toNatClampNeg) hRep
  refine lv_aload_n hx hb dL_law__799 rfl (lv_at hl 3 rfl) ?_
  refine lv_aload_n hx hb dL_law__800 rfl (lv_at hl 4 rfl) ?_
  refine lv_iload hx hb dL_law__801 (lv_at hl 0 rfl) ?_
  refine lv_iconst (v := 1) hx hb dL_law__803 (by decide) ?_
  refine lv_iadd hx hb dL_law__804 ?_
  refine va_sld (A := fun q => x ≤ q) hx hb hX hb0 hbA hL.2.2.2 h1 dL_law__805 ?_
  refine lv_aload_n hx hb dL_law__806 rfl (lv_at hl 4 rfl) ?_
  refine lv_iload hx hb dL_law__807 (lv_at hl 0 rfl) ?_
  refine lv_iconst (v := 2) hx hb dL_law__809 (by decide) ?_
  refine lv_iadd hx hb dL_law__810 ?_
  refine va_sld (A := fun q => x ≤ q) hx hb hX hb0 hbA hL.2.2.2 h2 dL_law__811 ?_
  refine lv_aload_n hx hb dL_law__812 rfl (lv_at hl 1 rfl) ?_
  refine cl_H (av := [.ref x, .int (xs (nI i + 1).toNatClampNeg), .int (xs (nI i + 2).toNatClampNeg), .ref oo]) (rest := []) C hC hL (k_L_stream l D a x e0 (AW x mo oo) hfl oo f σ (xs (nI i + 1).toNatClampNeg) (xs (nI i + 2).toNatClampNeg) a1 a2) cwh_stream ⟨by omega, by omega⟩ rfl rfl hl.1 (Nat.le_of_ble_eq_true rfl) (by omega) (by omega) dL_law__813 (fun H1 locs1 Nq hq hq0 hL => ?_)
  have a4 := a4 Nq f hq hq0
  generalize hh9 : hR cd_stream cvZ (FL_stream σ x (xs (nI i + 1).toNatClampNeg) (xs (nI i + 2).toNatClampNeg) Nq) f σ = h9 at hL a4 ⊢
  refine lv_istore (lv' := [(5, .int h9.1), (4, .int (nI i)), (3, .ref oo), (2, .ref mo), (1, .ref x), (0, .ref b)]) hx hb dL_law__816 hl (by decide) rfl (fun ls hl => ?_)
  refine lv_aload_n hx hb dL_law__818 rfl (lv_at hl 3 rfl) ?_
  refine lv_aload_n hx hb dL_law__819 rfl (lv_at hl 5 rfl) ?_
  refine lv_iload hx hb dL_law__820 (lv_at hl 1 rfl) ?_
  refine lv_iconst (v := 1) hx hb dL_law__822 (by decide) ?_
  refine lv_iadd hx hb dL_law__823 ?_
  refine va_sld (A := fun q => x ≤ q) hx hb hX hb0 hbA hL.2.2.2 h1 dL_law__824 ?_
  refine lv_aload_n hx hb dL_law__825 rfl (lv_at hl 5 rfl) ?_
  refine lv_iload hx hb dL_law__826 (lv_at hl 1 rfl) ?_
  refine lv_iconst (v := 2) hx hb dL_law__828 (by decide) ?_
  refine lv_iadd hx hb dL_law__829 ?_
  refine va_sld (A := fun q => x ≤ q) hx hb hX hb0 hbA hL.2.2.2 h2 dL_law__830 ?_
  refine cl_M (av := [.int (xs (nI i + 1).toNatClampNeg), .int (xs (nI i + 2).toNatClampNeg)]) (rest := []) C hC hL (k_X11_stream l D a mo μ (xs (nI i + 1).toNatClampNeg) (xs (nI i + 2).toNatClampNeg) a3) cwm_162 (okR_of (F := R.frames) (L := R.locals) rfl rfl (by omega) (by omega)) rfl rfl hl.1 (Nat.le_of_ble_eq_true rfl) (by omega) (by omega) dL_law__831 (fun H2 locs2 hL => ?_)
  refine lv_istore (lv' := [(6, .int (f_X11_stream μ (xs (nI i + 1).toNatClampNeg) (xs (nI i + 2).toNatClampNeg)).1), (5, .int h9.1), (4, .int (nI i)), (3, .ref oo), (2, .ref mo), (1, .ref x), (0, .ref b)]) hx hb dL_law__834 hl (by decide) rfl (fun ls hl => ?_)
  refine lv_aload_n hx hb dL_law__836 rfl (lv_at hl 4 rfl) ?_
  refine cl_R (av := []) (rest := []) C hL (k_X11_thrown l D a mo (f_X11_stream μ (xs (nI i + 1).toNatClampNeg) (xs (nI i + 2).toNatClampNeg)).2) cwm_128 (okR_of (F := R.frames) (L := R.locals) rfl rfl (by omega) (by omega)) rfl rfl hl.1 (Nat.le_of_ble_eq_true rfl) (by omega) (by omega) dL_law__837 ?_
  refine lv_iload hx hb dL_law__840 (lv_at hl 1 rfl) ?_
  refine lv_icmp_eq (tgt := 847) hx hb dL_law__842 (by decide) (fun _ => ?_) (fun c => absurd a4.1 c)
  refine lv_iload hx hb dL_law__847 (lv_at hl 1 rfl) ?_
  refine lv_if_ne (tgt := 871) hx hb dL_law__849 (by decide) (fun _ => ?_) (fun c8 => ?_)
  · skip
    refine lv_goto (tgt := 2214) hx hb dL_law__871 (by decide) ?_
    exact W.widen (k := cells + 10) (n := slots + 400) (by omega) (by omega) (hend _ _ _ _ _ ls hL a4.2.2 (lv_sub hl [2, 3, 4, 5, 6] rfl))
  · have a5 := a4.2.1 c8
    refine lv_aload_n hx hb dL_law__852 rfl (lv_at hl 3 rfl) ?_
    refine lv_iconst (v := 0) hx hb dL_law__853 (by decide) ?_
    refine cl_out C hL dL_law__854 ?_
    refine lv_iload hx hb dL_law__855 (lv_at hl 0 rfl) ?_
    refine lv_if_eq (tgt := 864) hx hb dL_law__857 (by decide) (fun c7 => ?_) (fun c7 => ?_)
    · rw [if_pos c7] at a5
      refine lv_lconst (v := 0) hx hb dL_law__864 (by decide) ?_
      refine W.lcmp hx hb dL_law__865 ?_
      rw [a5]
      refine lv_if_eq (tgt := 871) hx hb dL_law__866 (by decide) (fun _ => ?_) (fun c => absurd (cmp_self _) c)
      refine lv_goto (tgt := 2214) hx hb dL_law__871 (by decide) ?_
      exact W.widen (k := cells + 10) (n := slots + 400) (by omega) (by omega) (hend _ _ _ _ _ ls hL a4.2.2 (lv_sub hl [2, 3, 4, 5, 6] rfl))
    · rw [if_neg c7] at a5
      refine lv_lconst (v := 1) hx hb dL_law__860 (by decide) ?_
      refine lv_goto (tgt := 865) hx hb dL_law__861 (by decide) ?_
      refine W.lcmp hx hb dL_law__865 ?_
      rw [a5]
      refine lv_if_eq (tgt := 871) hx hb dL_law__866 (by decide) (fun _ => ?_) (fun c => absurd (cmp_self _) c)
      refine lv_goto (tgt := 2214) hx hb dL_law__871 (by decide) ?_
      exact W.widen (k := cells + 10) (n := slots + 400) (by omega) (by omega) (hend _ _ _ _ _ ls hL a4.2.2 (lv_sub hl [2, 3, 4, 5, 6] rfl))
def Br_flux (Rep : XS → Nat → MS → Prop) : Prop := ∀ (σ : XS) (x : Nat) (μ : MS) (p0 p1 p2 : Int32), Rep σ x μ → (of_X10_flux σ x p0 p1 p2) ∧ (∀ nq k, FL_flux σ x p0 p1 p2 nq = .error k → k = 1) ∧ (of_X11_flux μ p0 p1 p2) ∧ (∀ nq f, xk σ nq = 0 → nq ≠ 0 → f_X11_thrown (f_X11_flux μ p0 p1 p2).2 = (hR cd_flux cvI (FL_flux σ x p0 p1 p2 nq) f σ).1 ∧ ((hR cd_flux cvI (FL_flux σ x p0 p1 p2 nq) f σ).1 = 0 → (hR cd_flux cvI (FL_flux σ x p0 p1 p2 nq) f σ).2.1 0 = ((f_X11_flux μ p0 p1 p2).1).toInt64) ∧ Rep (hR cd_flux cvI (FL_flux σ x p0 p1 p2 nq) f σ).2.2 x (f_X11_flux μ p0 p1 p2).2)
set_option maxRecDepth 100000 in
theorem lawc_flux (Rep : XS → Nat → MS → Prop) (br : Br_flux Rep) {p : Program} {l : Launch} (hfl : l.stackTraces = false) {e : Env} {R : Room} {s : State} {m : MethodId} {args : Array Value} {below : List Frame} {meth : Method} {c : Code} {H : Heap} {locs : List Loc} {cells slots : Nat} {Q : State → Prop} {D : va_G} {a : Nat → ClassId} {x e0 mo oo b N i : Nat} {xs : Nat → Int32} {σ : XS} {μ : MS} {f : Nat → Int64} {ls : Array Slot} (C : Cx D a p s m args c cL_law_ 8 RL) (hC : LC s D a x e0 mo oo) (hX : va_X b N xs s s.heap) (hb0 : b < s.heap.size) (hN : N ≤ 3072) (hi : i + 6 ≤ N) (hRf : 12 ≤ R.frames) (hRl : 400 ≤ R.locals) (hRc : cells + 10 ≤ R.cells) (hRs : slots + 400 ≤ R.slots) (hL : LI s D a x e0 mo oo σ μ f H locs) (hRep : Rep σ x μ) (hl : lv_has ls 8 [(4, .int (nI i)), (3, .ref oo), (2, .ref mo), (1, .ref x), (0, .ref b)]) (hend : ∀ σ1 μ1 f1 H1 locs1 ls1, LI s D a x e0 mo oo σ1 μ1 f1 H1 locs1 → Rep σ1 x μ1 → lv_has ls1 8 [(4, .int (nI i)), (3, .ref oo), (2, .ref mo), (1, .ref x), (0, .ref b)] → W p l e R s m args below meth c H1 locs1 (cells + 10) (slots + 400) Q (F0 m 2214 ls1 [])) : W p l e R s m args below meth c H locs cells slots Q (F0 m 874 ls []) := by
  have hx := C.1.1
  have hb := C.1.2.1
  have hbA : ¬ x ≤ b := by rw [hC.1]; omega
  have h1 : vp_in (nI i + 1) N := by rw [show (1 : Int32) = nI 1 from rfl, nI_add]; exact nI_in (by omega) (by omega)
  have h2 : vp_in (nI i + 2) N := by rw [show (2 : Int32) = nI 2 from rfl, nI_add]; exact nI_in (by omega) (by omega)
  have h3 : vp_in (nI i + 3) N := by rw [show (3 : Int32) = nI 3 from rfl, nI_add]; exact nI_in (by omega) (by omega)
  obtain ⟨a1, a2, a3, a4⟩ := br σ x μ (xs (nI i + 1).toNatClampNeg) (xs (nI i + 2).toNatClampNeg) (xs (nI i + 3).toNatClampNeg) hRep
  refine lv_aload_n hx hb dL_law__874 rfl (lv_at hl 3 rfl) ?_
  refine lv_aload_n hx hb dL_law__875 rfl (lv_at hl 4 rfl) ?_
  refine lv_iload hx hb dL_law__876 (lv_at hl 0 rfl) ?_
  refine lv_iconst (v := 1) hx hb dL_law__878 (by decide) ?_
  refine lv_iadd hx hb dL_law__879 ?_
  refine va_sld (A := fun q => x ≤ q) hx hb hX hb0 hbA hL.2.2.2 h1 dL_law__880 ?_
  refine lv_aload_n hx hb dL_law__881 rfl (lv_at hl 4 rfl) ?_
  refine lv_iload hx hb dL_law__882 (lv_at hl 0 rfl) ?_
  refine lv_iconst (v := 2) hx hb dL_law__884 (by decide) ?_
  refine lv_iadd hx hb dL_law__885 ?_
  refine va_sld (A := fun q => x ≤ q) hx hb hX hb0 hbA hL.2.2.2 h2 dL_law__886 ?_
  refine lv_aload_n hx hb dL_law__887 rfl (lv_at hl 4 rfl) ?_
  refine lv_iload hx hb dL_law__888 (lv_at hl 0 rfl) ?_
  refine lv_iconst (v := 3) hx hb dL_law__890 (by decide) ?_
  refine lv_iadd hx hb dL_law__891 ?_
  refine va_sld (A := fun q => x ≤ q) hx hb hX hb0 hbA hL.2.2.2 h3 dL_law__892 ?_
  refine lv_aload_n hx hb dL_law__893 rfl (lv_at hl 1 rfl) ?_
  refine cl_H (av := [.ref x, .int (xs (nI i + 1).toNatClampNeg), .int (xs (nI i + 2).toNatClampNeg), .int (xs (nI i + 3).toNatClampNeg), .ref oo]) (rest := []) C hC hL (k_L_flux l D a x e0 (AW x mo oo) hfl oo f σ (xs (nI i + 1).toNatClampNeg) (xs (nI i + 2).toNatClampNeg) (xs (nI i + 3).toNatClampNeg) a1 a2) cwh_flux ⟨by omega, by omega⟩ rfl rfl hl.1 (Nat.le_of_ble_eq_true rfl) (by omega) (by omega) dL_law__894 (fun H1 locs1 Nq hq hq0 hL => ?_)
  have a4 := a4 Nq f hq hq0
  generalize hh9 : hR cd_flux cvI (FL_flux σ x (xs (nI i + 1).toNatClampNeg) (xs (nI i + 2).toNatClampNeg) (xs (nI i + 3).toNatClampNeg) Nq) f σ = h9 at hL a4 ⊢
  refine lv_istore (lv' := [(5, .int h9.1), (4, .int (nI i)), (3, .ref oo), (2, .ref mo), (1, .ref x), (0, .ref b)]) hx hb dL_law__897 hl (by decide) rfl (fun ls hl => ?_)
  refine lv_aload_n hx hb dL_law__899 rfl (lv_at hl 3 rfl) ?_
  refine lv_aload_n hx hb dL_law__900 rfl (lv_at hl 5 rfl) ?_
  refine lv_iload hx hb dL_law__901 (lv_at hl 1 rfl) ?_
  refine lv_iconst (v := 1) hx hb dL_law__903 (by decide) ?_
  refine lv_iadd hx hb dL_law__904 ?_
  refine va_sld (A := fun q => x ≤ q) hx hb hX hb0 hbA hL.2.2.2 h1 dL_law__905 ?_
  refine lv_aload_n hx hb dL_law__906 rfl (lv_at hl 5 rfl) ?_
  refine lv_iload hx hb dL_law__907 (lv_at hl 1 rfl) ?_
  refine lv_iconst (v := 2) hx hb dL_law__909 (by decide) ?_
  refine lv_iadd hx hb dL_law__910 ?_
  refine va_sld (A := fun q => x ≤ q) hx hb hX hb0 hbA hL.2.2.2 h2 dL_law__911 ?_
  refine lv_aload_n hx hb dL_law__912 rfl (lv_at hl 5 rfl) ?_
  refine lv_iload hx hb dL_law__913 (lv_at hl 1 rfl) ?_
  refine lv_iconst (v := 3) hx hb dL_law__915 (by decide) ?_
  refine lv_iadd hx hb dL_law__916 ?_
  refine va_sld (A := fun q => x ≤ q) hx hb hX hb0 hbA hL.2.2.2 h3 dL_law__917 ?_
  refine cl_M (av := [.int (xs (nI i + 1).toNatClampNeg), .int (xs (nI i + 2).toNatClampNeg), .int (xs (nI i + 3).toNatClampNeg)]) (rest := []) C hC hL (k_X11_flux l D a mo μ (xs (nI i + 1).toNatClampNeg) (xs (nI i + 2).toNatClampNeg) (xs (nI i + 3).toNatClampNeg) a3) cwm_165 (okR_of (F := R.frames) (L := R.locals) rfl rfl (by omega) (by omega)) rfl rfl hl.1 (Nat.le_of_ble_eq_true rfl) (by omega) (by omega) dL_law__918 (fun H2 locs2 hL => ?_)
  refine lv_istore (lv' := [(6, .int (f_X11_flux μ (xs (nI i + 1).toNatClampNeg) (xs (nI i + 2).toNatClampNeg) (xs (nI i + 3).toNatClampNeg)).1), (5, .int h9.1), (4, .int (nI i)), (3, .ref oo), (2, .ref mo), (1, .ref x), (0, .ref b)]) hx hb dL_law__921 hl (by decide) rfl (fun ls hl => ?_)
  refine lv_aload_n hx hb dL_law__923 rfl (lv_at hl 4 rfl) ?_
  refine cl_R (av := []) (rest := []) C hL (k_X11_thrown l D a mo (f_X11_flux μ (xs (nI i + 1).toNatClampNeg) (xs (nI i + 2).toNatClampNeg) (xs (nI i + 3).toNatClampNeg)).2) cwm_128 (okR_of (F := R.frames) (L := R.locals) rfl rfl (by omega) (by omega)) rfl rfl hl.1 (Nat.le_of_ble_eq_true rfl) (by omega) (by omega) dL_law__924 ?_
  refine lv_iload hx hb dL_law__927 (lv_at hl 1 rfl) ?_
  refine lv_icmp_eq (tgt := 934) hx hb dL_law__929 (by decide) (fun _ => ?_) (fun c => absurd a4.1 c)
  refine lv_iload hx hb dL_law__934 (lv_at hl 1 rfl) ?_
  refine lv_if_ne (tgt := 951) hx hb dL_law__936 (by decide) (fun _ => ?_) (fun c8 => ?_)
  · skip
    refine lv_goto (tgt := 2214) hx hb dL_law__951 (by decide) ?_
    exact W.widen (k := cells + 10) (n := slots + 400) (by omega) (by omega) (hend _ _ _ _ _ ls hL a4.2.2 (lv_sub hl [2, 3, 4, 5, 6] rfl))
  · have a5 := a4.2.1 c8
    refine lv_aload_n hx hb dL_law__939 rfl (lv_at hl 3 rfl) ?_
    refine lv_iconst (v := 0) hx hb dL_law__940 (by decide) ?_
    refine cl_out C hL dL_law__941 ?_
    refine lv_iload hx hb dL_law__942 (lv_at hl 0 rfl) ?_
    refine lv_i2l (v := ((f_X11_flux μ (xs (nI i + 1).toNatClampNeg) (xs (nI i + 2).toNatClampNeg) (xs (nI i + 3).toNatClampNeg)).1).toInt64) hx hb dL_law__944 rfl ?_
    refine W.lcmp hx hb dL_law__945 ?_
    rw [a5]
    refine lv_if_eq (tgt := 951) hx hb dL_law__946 (by decide) (fun _ => ?_) (fun c => absurd (cmp_self _) c)
    refine lv_goto (tgt := 2214) hx hb dL_law__951 (by decide) ?_
    exact W.widen (k := cells + 10) (n := slots + 400) (by omega) (by omega) (hend _ _ _ _ _ ls hL a4.2.2 (lv_sub hl [2, 3, 4, 5, 6] rfl))
def Br_wind (Rep : XS → Nat → MS → Prop) : Prop := ∀ (σ : XS) (x : Nat) (μ : MS) (p0 p1 p2 : Int32), Rep σ x μ → (∀ nq, xk σ nq = 0 → of_X10_wind σ x nq p0 p1 p2) ∧ (∀ nq k, FL_wind σ x p0 p1 p2 nq = .error k → k = 1 ∨ k = 2) ∧ (of_X11_wind μ p0 p1 p2) ∧ (∀ nq f, xk σ nq = 0 → nq ≠ 0 → f_X11_thrown (f_X11_wind μ p0 p1 p2) = (hR cd_wind cvV (FL_wind σ x p0 p1 p2 nq) f σ).1 ∧ Rep (hR cd_wind cvV (FL_wind σ x p0 p1 p2 nq) f σ).2.2 x (f_X11_wind μ p0 p1 p2))
set_option maxRecDepth 100000 in
theorem lawc_wind (Rep : XS → Nat → MS → Prop) (br : Br_wind Rep) {p : Program} {l : Launch} (hfl : l.stackTraces = false) {e : Env} {R : Room} {s : State} {m : MethodId} {args : Array Value} {below : List Frame} {meth : Method} {c : Code} {H : Heap} {locs : List Loc} {cells slots : Nat} {Q : State → Prop} {D : va_G} {a : Nat → ClassId} {x e0 mo oo b N i : Nat} {xs : Nat → Int32} {σ : XS} {μ : MS} {f : Nat → Int64} {ls : Array Slot} (C : Cx D a p s m args c cL_law_ 8 RL) (hC : LC s D a x e0 mo oo) (hX : va_X b N xs s s.heap) (hb0 : b < s.heap.size) (hN : N ≤ 3072) (hi : i + 6 ≤ N) (hRf : 12 ≤ R.frames) (hRl : 400 ≤ R.locals) (hRc : cells + 10 ≤ R.cells) (hRs : slots + 400 ≤ R.slots) (hL : LI s D a x e0 mo oo σ μ f H locs) (hRep : Rep σ x μ) (hl : lv_has ls 8 [(4, .int (nI i)), (3, .ref oo), (2, .ref mo), (1, .ref x), (0, .ref b)]) (hend : ∀ σ1 μ1 f1 H1 locs1 ls1, LI s D a x e0 mo oo σ1 μ1 f1 H1 locs1 → Rep σ1 x μ1 → lv_has ls1 8 [(4, .int (nI i)), (3, .ref oo), (2, .ref mo), (1, .ref x), (0, .ref b)] → W p l e R s m args below meth c H1 locs1 (cells + 10) (slots + 400) Q (F0 m 2214 ls1 [])) : W p l e R s m args below meth c H locs cells slots Q (F0 m 954 ls []) := by
  have hx := C.1.1
  have hb := C.1.2.1
  have hbA : ¬ x ≤ b := by rw [hC.1]; omega
  have h1 : vp_in (nI i + 1) N := by rw [show (1 : Int32) = nI 1 from rfl, nI_add]; exact nI_in (by omega) (by omega)
  have h2 : vp_in (nI i + 2) N := by rw [show (2 : Int32) = nI 2 from rfl, nI_add]; exact nI_in (by omega) (by omega)
  have h3 : vp_in (nI i + 3) N := by rw [show (3 : Int32) = nI 3 from rfl, nI_add]; exact nI_in (by omega) (by omega)
  obtain ⟨a1, a2, a3, a4⟩ := br σ x μ (xs (nI i + 1).toNatClampNeg) (xs (nI i + 2).toNatClampNeg) (xs (nI i + 3).toNatClampNeg) hRep
  refine lv_aload_n hx hb dL_law__954 rfl (lv_at hl 3 rfl) ?_
  refine lv_aload_n hx hb dL_law__955 rfl (lv_at hl 4 rfl) ?_
  refine lv_iload hx hb dL_law__956 (lv_at hl 0 rfl) ?_
  refine lv_iconst (v := 1) hx hb dL_law__958 (by decide) ?_
  refine lv_iadd hx hb dL_law__959 ?_
  refine va_sld (A := fun q => x ≤ q) hx hb hX hb0 hbA hL.2.2.2 h1 dL_law__960 ?_
  refine lv_aload_n hx hb dL_law__961 rfl (lv_at hl 4 rfl) ?_
  refine lv_iload hx hb dL_law__962 (lv_at hl 0 rfl) ?_
  refine lv_iconst (v := 2) hx hb dL_law__964 (by decide) ?_
  refine lv_iadd hx hb dL_law__965 ?_
  refine va_sld (A := fun q => x ≤ q) hx hb hX hb0 hbA hL.2.2.2 h2 dL_law__966 ?_
  refine lv_aload_n hx hb dL_law__967 rfl (lv_at hl 4 rfl) ?_
  refine lv_iload hx hb dL_law__968 (lv_at hl 0 rfl) ?_
  refine lv_iconst (v := 3) hx hb dL_law__970 (by decide) ?_
  refine lv_iadd hx hb dL_law__971 ?_
  refine va_sld (A := fun q => x ≤ q) hx hb hX hb0 hbA hL.2.2.2 h3 dL_law__972 ?_
  refine cl_H (av := [.ref x, .int (xs (nI i + 1).toNatClampNeg), .int (xs (nI i + 2).toNatClampNeg), .int (xs (nI i + 3).toNatClampNeg)]) (rest := []) C hC hL (k_L_wind l D a x e0 (AW x mo oo) hfl oo f σ (xs (nI i + 1).toNatClampNeg) (xs (nI i + 2).toNatClampNeg) (xs (nI i + 3).toNatClampNeg) a1 a2) cwh_wind ⟨by omega, by omega⟩ rfl rfl hl.1 (Nat.le_of_ble_eq_true rfl) (by omega) (by omega) dL_law__973 (fun H1 locs1 Nq hq hq0 hL => ?_)
  have a4 := a4 Nq f hq hq0
  generalize hh9 : hR cd_wind cvV (FL_wind σ x (xs (nI i + 1).toNatClampNeg) (xs (nI i + 2).toNatClampNeg) (xs (nI i + 3).toNatClampNeg) Nq) f σ = h9 at hL a4 ⊢
  refine lv_istore (lv' := [(5, .int h9.1), (4, .int (nI i)), (3, .ref oo), (2, .ref mo), (1, .ref x), (0, .ref b)]) hx hb dL_law__976 hl (by decide) rfl (fun ls hl => ?_)
  refine lv_aload_n hx hb dL_law__978 rfl (lv_at hl 3 rfl) ?_
  refine lv_aload_n hx hb dL_law__979 rfl (lv_at hl 5 rfl) ?_
  refine lv_iload hx hb dL_law__980 (lv_at hl 1 rfl) ?_
  refine lv_iconst (v := 1) hx hb dL_law__982 (by decide) ?_
  refine lv_iadd hx hb dL_law__983 ?_
  refine va_sld (A := fun q => x ≤ q) hx hb hX hb0 hbA hL.2.2.2 h1 dL_law__984 ?_
  refine lv_aload_n hx hb dL_law__985 rfl (lv_at hl 5 rfl) ?_
  refine lv_iload hx hb dL_law__986 (lv_at hl 1 rfl) ?_
  refine lv_iconst (v := 2) hx hb dL_law__988 (by decide) ?_
  refine lv_iadd hx hb dL_law__989 ?_
  refine va_sld (A := fun q => x ≤ q) hx hb hX hb0 hbA hL.2.2.2 h2 dL_law__990 ?_
  refine lv_aload_n hx hb dL_law__991 rfl (lv_at hl 5 rfl) ?_
  refine lv_iload hx hb dL_law__992 (lv_at hl 1 rfl) ?_
  refine lv_iconst (v := 3) hx hb dL_law__994 (by decide) ?_
  refine lv_iadd hx hb dL_law__995 ?_
  refine va_sld (A := fun q => x ≤ q) hx hb hX hb0 hbA hL.2.2.2 h3 dL_law__996 ?_
  refine cl_M (av := [.int (xs (nI i + 1).toNatClampNeg), .int (xs (nI i + 2).toNatClampNeg), .int (xs (nI i + 3).toNatClampNeg)]) (rest := []) C hC hL (k_X11_wind l D a mo μ (xs (nI i + 1).toNatClampNeg) (xs (nI i + 2).toNatClampNeg) (xs (nI i + 3).toNatClampNeg) a3) cwm_169 (okR_of (F := R.frames) (L := R.locals) rfl rfl (by omega) (by omega)) rfl rfl hl.1 (Nat.le_of_ble_eq_true rfl) (by omega) (by omega) dL_law__997 (fun H2 locs2 hL => ?_)
  refine lv_aload_n hx hb dL_law__1000 rfl (lv_at hl 3 rfl) ?_
  refine cl_R (av := []) (rest := []) C hL (k_X11_thrown l D a mo (f_X11_wind μ (xs (nI i + 1).toNatClampNeg) (xs (nI i + 2).toNatClampNeg) (xs (nI i + 3).toNatClampNeg))) cwm_128 (okR_of (F := R.frames) (L := R.locals) rfl rfl (by omega) (by omega)) rfl rfl hl.1 (Nat.le_of_ble_eq_true rfl) (by omega) (by omega) dL_law__1001 ?_
  refine lv_iload hx hb dL_law__1004 (lv_at hl 0 rfl) ?_
  refine lv_icmp_eq (tgt := 1011) hx hb dL_law__1006 (by decide) (fun _ => ?_) (fun c => absurd a4.1 c)
  refine lv_goto (tgt := 2214) hx hb dL_law__1011 (by decide) ?_
  exact W.widen (k := cells + 10) (n := slots + 400) (by omega) (by omega) (hend _ _ _ _ _ ls hL a4.2 (lv_sub hl [1, 2, 3, 4, 5] rfl))
def Br_walk (Rep : XS → Nat → MS → Prop) : Prop := ∀ (σ : XS) (x : Nat) (μ : MS) (p0 p1 p2 p3 : Int32), Rep σ x μ → (∀ nq, xk σ nq = 0 → of_X10_walk σ x nq p0 p1 p2 p3) ∧ (∀ nq k, FL_walk σ x p0 p1 p2 p3 nq = .error k → k = 3 ∨ k = 1 ∨ k = 2) ∧ (of_X11_walk μ p0 p1 p2 p3) ∧ (∀ nq f, xk σ nq = 0 → nq ≠ 0 → f_X11_thrown (f_X11_walk μ p0 p1 p2 p3).2 = (hR cd_walk cvL (FL_walk σ x p0 p1 p2 p3 nq) f σ).1 ∧ ((hR cd_walk cvL (FL_walk σ x p0 p1 p2 p3 nq) f σ).1 = 0 → (hR cd_walk cvL (FL_walk σ x p0 p1 p2 p3 nq) f σ).2.1 0 = (f_X11_walk μ p0 p1 p2 p3).1) ∧ Rep (hR cd_walk cvL (FL_walk σ x p0 p1 p2 p3 nq) f σ).2.2 x (f_X11_walk μ p0 p1 p2 p3).2)
set_option maxRecDepth 100000 in
theorem lawc_walk (Rep : XS → Nat → MS → Prop) (br : Br_walk Rep) {p : Program} {l : Launch} (hfl : l.stackTraces = false) {e : Env} {R : Room} {s : State} {m : MethodId} {args : Array Value} {below : List Frame} {meth : Method} {c : Code} {H : Heap} {locs : List Loc} {cells slots : Nat} {Q : State → Prop} {D : va_G} {a : Nat → ClassId} {x e0 mo oo b N i : Nat} {xs : Nat → Int32} {σ : XS} {μ : MS} {f : Nat → Int64} {ls : Array Slot} (C : Cx D a p s m args c cL_law_ 8 RL) (hC : LC s D a x e0 mo oo) (hX : va_X b N xs s s.heap) (hb0 : b < s.heap.size) (hN : N ≤ 3072) (hi : i + 6 ≤ N) (hRf : 12 ≤ R.frames) (hRl : 400 ≤ R.locals) (hRc : cells + 10 ≤ R.cells) (hRs : slots + 400 ≤ R.slots) (hL : LI s D a x e0 mo oo σ μ f H locs) (hRep : Rep σ x μ) (hl : lv_has ls 8 [(4, .int (nI i)), (3, .ref oo), (2, .ref mo), (1, .ref x), (0, .ref b)]) (hend : ∀ σ1 μ1 f1 H1 locs1 ls1, LI s D a x e0 mo oo σ1 μ1 f1 H1 locs1 → Rep σ1 x μ1 → lv_has ls1 8 [(4, .int (nI i)), (3, .ref oo), (2, .ref mo), (1, .ref x), (0, .ref b)] → W p l e R s m args below meth c H1 locs1 (cells + 10) (slots + 400) Q (F0 m 2214 ls1 [])) : W p l e R s m args below meth c H locs cells slots Q (F0 m 1014 ls []) := by
  have hx := C.1.1
  have hb := C.1.2.1
  have hbA : ¬ x ≤ b := by rw [hC.1]; omega
  have h1 : vp_in (nI i + 1) N := by rw [show (1 : Int32) = nI 1 from rfl, nI_add]; exact nI_in (by omega) (by omega)
  have h2 : vp_in (nI i + 2) N := by rw [show (2 : Int32) = nI 2 from rfl, nI_add]; exact nI_in (by omega) (by omega)
  have h3 : vp_in (nI i + 3) N := by rw [show (3 : Int32) = nI 3 from rfl, nI_add]; exact nI_in (by omega) (by omega)
  have h4 : vp_in (nI i + 4) N := by rw [show (4 : Int32) = nI 4 from rfl, nI_add]; exact nI_in (by omega) (by omega)
  obtain ⟨a1, a2, a3, a4⟩ := br σ x μ (xs (nI i + 1).toNatClampNeg) (xs (nI i + 2).toNatClampNeg) (xs (nI i + 3).toNatClampNeg) (xs (nI i + 4).toNatClampNeg) hRep
  refine lv_aload_n hx hb dL_law__1014 rfl (lv_at hl 3 rfl) ?_
  refine lv_aload_n hx hb dL_law__1015 rfl (lv_at hl 4 rfl) ?_
  refine lv_iload hx hb dL_law__1016 (lv_at hl 0 rfl) ?_
  refine lv_iconst (v := 1) hx hb dL_law__1018 (by decide) ?_
  refine lv_iadd hx hb dL_law__1019 ?_
  refine va_sld (A := fun q => x ≤ q) hx hb hX hb0 hbA hL.2.2.2 h1 dL_law__1020 ?_
  refine lv_aload_n hx hb dL_law__1021 rfl (lv_at hl 4 rfl) ?_
  refine lv_iload hx hb dL_law__1022 (lv_at hl 0 rfl) ?_
  refine lv_iconst (v := 2) hx hb dL_law__1024 (by decide) ?_
  refine lv_iadd hx hb dL_law__1025 ?_
  refine va_sld (A := fun q => x ≤ q) hx hb hX hb0 hbA hL.2.2.2 h2 dL_law__1026 ?_
  refine lv_aload_n hx hb dL_law__1027 rfl (lv_at hl 4 rfl) ?_
  refine lv_iload hx hb dL_law__1028 (lv_at hl 0 rfl) ?_
  refine lv_iconst (v := 3) hx hb dL_law__1030 (by decide) ?_
  refine lv_iadd hx hb dL_law__1031 ?_
  refine va_sld (A := fun q => x ≤ q) hx hb hX hb0 hbA hL.2.2.2 h3 dL_law__1032 ?_
  refine lv_aload_n hx hb dL_law__1033 rfl (lv_at hl 4 rfl) ?_
  refine lv_iload hx hb dL_law__1034 (lv_at hl 0 rfl) ?_
  refine lv_iconst (v := 4) hx hb dL_law__1036 (by decide) ?_
  refine lv_iadd hx hb dL_law__1037 ?_
  refine va_sld (A := fun q => x ≤ q) hx hb hX hb0 hbA hL.2.2.2 h4 dL_law__1038 ?_
  refine lv_aload_n hx hb dL_law__1039 rfl (lv_at hl 1 rfl) ?_
  refine cl_H (av := [.ref x, .int (xs (nI i + 1).toNatClampNeg), .int (xs (nI i + 2).toNatClampNeg), .int (xs (nI i + 3).toNatClampNeg), .int (xs (nI i + 4).toNatClampNeg), .ref oo]) (rest := []) C hC hL (k_L_walk l D a x e0 (AW x mo oo) hfl oo f σ (xs (nI i + 1).toNatClampNeg) (xs (nI i + 2).toNatClampNeg) (xs (nI i + 3).toNatClampNeg) (xs (nI i + 4).toNatClampNeg) a1 a2) cwh_walk ⟨by omega, by omega⟩ rfl rfl hl.1 (Nat.le_of_ble_eq_true rfl) (by omega) (by omega) dL_law__1040 (fun H1 locs1 Nq hq hq0 hL => ?_)
  have a4 := a4 Nq f hq hq0
  generalize hh9 : hR cd_walk cvL (FL_walk σ x (xs (nI i + 1).toNatClampNeg) (xs (nI i + 2).toNatClampNeg) (xs (nI i + 3).toNatClampNeg) (xs (nI i + 4).toNatClampNeg) Nq) f σ = h9 at hL a4 ⊢
  refine lv_istore (lv' := [(5, .int h9.1), (4, .int (nI i)), (3, .ref oo), (2, .ref mo), (1, .ref x), (0, .ref b)]) hx hb dL_law__1043 hl (by decide) rfl (fun ls hl => ?_)
  refine lv_aload_n hx hb dL_law__1045 rfl (lv_at hl 3 rfl) ?_
  refine lv_aload_n hx hb dL_law__1046 rfl (lv_at hl 5 rfl) ?_
  refine lv_iload hx hb dL_law__1047 (lv_at hl 1 rfl) ?_
  refine lv_iconst (v := 1) hx hb dL_law__1049 (by decide) ?_
  refine lv_iadd hx hb dL_law__1050 ?_
  refine va_sld (A := fun q => x ≤ q) hx hb hX hb0 hbA hL.2.2.2 h1 dL_law__1051 ?_
  refine lv_aload_n hx hb dL_law__1052 rfl (lv_at hl 5 rfl) ?_
  refine lv_iload hx hb dL_law__1053 (lv_at hl 1 rfl) ?_
  refine lv_iconst (v := 2) hx hb dL_law__1055 (by decide) ?_
  refine lv_iadd hx hb dL_law__1056 ?_
  refine va_sld (A := fun q => x ≤ q) hx hb hX hb0 hbA hL.2.2.2 h2 dL_law__1057 ?_
  refine lv_aload_n hx hb dL_law__1058 rfl (lv_at hl 5 rfl) ?_
  refine lv_iload hx hb dL_law__1059 (lv_at hl 1 rfl) ?_
  refine lv_iconst (v := 3) hx hb dL_law__1061 (by decide) ?_
  refine lv_iadd hx hb dL_law__1062 ?_
  refine va_sld (A := fun q => x ≤ q) hx hb hX hb0 hbA hL.2.2.2 h3 dL_law__1063 ?_
  refine lv_aload_n hx hb dL_law__1064 rfl (lv_at hl 5 rfl) ?_
  refine lv_iload hx hb dL_law__1065 (lv_at hl 1 rfl) ?_
  refine lv_iconst (v := 4) hx hb dL_law__1067 (by decide) ?_
  refine lv_iadd hx hb dL_law__1068 ?_
  refine va_sld (A := fun q => x ≤ q) hx hb hX hb0 hbA hL.2.2.2 h4 dL_law__1069 ?_
  refine cl_M (av := [.int (xs (nI i + 1).toNatClampNeg), .int (xs (nI i + 2).toNatClampNeg), .int (xs (nI i + 3).toNatClampNeg), .int (xs (nI i + 4).toNatClampNeg)]) (rest := []) C hC hL (k_X11_walk l D a mo μ (xs (nI i + 1).toNatClampNeg) (xs (nI i + 2).toNatClampNeg) (xs (nI i + 3).toNatClampNeg) (xs (nI i + 4).toNatClampNeg) a3) cwm_172 (okR_of (F := R.frames) (L := R.locals) rfl rfl (by omega) (by omega)) rfl rfl hl.1 (Nat.le_of_ble_eq_true rfl) (by omega) (by omega) dL_law__1070 (fun H2 locs2 hL => ?_)
  refine lv_lstore (lv' := [(6, .long (f_X11_walk μ (xs (nI i + 1).toNatClampNeg) (xs (nI i + 2).toNatClampNeg) (xs (nI i + 3).toNatClampNeg) (xs (nI i + 4).toNatClampNeg)).1), (5, .int h9.1), (4, .int (nI i)), (3, .ref oo), (2, .ref mo), (1, .ref x), (0, .ref b)]) hx hb dL_law__1073 hl (by decide) rfl (fun ls hl => ?_)
  refine lv_aload_n hx hb dL_law__1075 rfl (lv_at hl 4 rfl) ?_
  refine cl_R (av := []) (rest := []) C hL (k_X11_thrown l D a mo (f_X11_walk μ (xs (nI i + 1).toNatClampNeg) (xs (nI i + 2).toNatClampNeg) (xs (nI i + 3).toNatClampNeg) (xs (nI i + 4).toNatClampNeg)).2) cwm_128 (okR_of (F := R.frames) (L := R.locals) rfl rfl (by omega) (by omega)) rfl rfl hl.1 (Nat.le_of_ble_eq_true rfl) (by omega) (by omega) dL_law__1076 ?_
  refine lv_iload hx hb dL_law__1079 (lv_at hl 1 rfl) ?_
  refine lv_icmp_eq (tgt := 1086) hx hb dL_law__1081 (by decide) (fun _ => ?_) (fun c => absurd a4.1 c)
  refine lv_iload hx hb dL_law__1086 (lv_at hl 1 rfl) ?_
  refine lv_if_ne (tgt := 1102) hx hb dL_law__1088 (by decide) (fun _ => ?_) (fun c8 => ?_)
  · skip
    refine lv_goto (tgt := 2214) hx hb dL_law__1102 (by decide) ?_
    exact W.widen (k := cells + 10) (n := slots + 400) (by omega) (by omega) (hend _ _ _ _ _ ls hL a4.2.2 (lv_sub hl [2, 3, 4, 5, 6] rfl))
  · have a5 := a4.2.1 c8
    refine lv_aload_n hx hb dL_law__1091 rfl (lv_at hl 3 rfl) ?_
    refine lv_iconst (v := 0) hx hb dL_law__1092 (by decide) ?_
    refine cl_out C hL dL_law__1093 ?_
    refine lv_lload hx hb dL_law__1094 (lv_at hl 0 rfl) ?_
    refine W.lcmp hx hb dL_law__1096 ?_
    rw [a5]
    refine lv_if_eq (tgt := 1102) hx hb dL_law__1097 (by decide) (fun _ => ?_) (fun c => absurd (cmp_self _) c)
    refine lv_goto (tgt := 2214) hx hb dL_law__1102 (by decide) ?_
    exact W.widen (k := cells + 10) (n := slots + 400) (by omega) (by omega) (hend _ _ _ _ _ ls hL a4.2.2 (lv_sub hl [2, 3, 4, 5, 6] rfl))
def Br_chance (Rep : XS → Nat → MS → Prop) : Prop := ∀ (σ : XS) (x : Nat) (μ : MS) (p0 p1 p2 : Int32), Rep σ x μ → (of_X10_chance σ x p0 p1 p2) ∧ (∀ nq k, FL_chance σ x p0 p1 p2 nq = .error k → k = 3 ∨ k = 1) ∧ (of_X11_chance μ p0 p1 p2) ∧ (∀ nq f, xk σ nq = 0 → nq ≠ 0 → f_X11_thrown (f_X11_chance μ p0 p1 p2).2 = (hR cd_chance cvL (FL_chance σ x p0 p1 p2 nq) f σ).1 ∧ ((hR cd_chance cvL (FL_chance σ x p0 p1 p2 nq) f σ).1 = 0 → (hR cd_chance cvL (FL_chance σ x p0 p1 p2 nq) f σ).2.1 0 = (f_X11_chance μ p0 p1 p2).1) ∧ Rep (hR cd_chance cvL (FL_chance σ x p0 p1 p2 nq) f σ).2.2 x (f_X11_chance μ p0 p1 p2).2)
set_option maxRecDepth 100000 in
theorem lawc_chance (Rep : XS → Nat → MS → Prop) (br : Br_chance Rep) {p : Program} {l : Launch} (hfl : l.stackTraces = false) {e : Env} {R : Room} {s : State} {m : MethodId} {args : Array Value} {below : List Frame} {meth : Method} {c : Code} {H : Heap} {locs : List Loc} {cells slots : Nat} {Q : State → Prop} {D : va_G} {a : Nat → ClassId} {x e0 mo oo b N i : Nat} {xs : Nat → Int32} {σ : XS} {μ : MS} {f : Nat → Int64} {ls : Array Slot} (C : Cx D a p s m args c cL_law_ 8 RL) (hC : LC s D a x e0 mo oo) (hX : va_X b N xs s s.heap) (hb0 : b < s.heap.size) (hN : N ≤ 3072) (hi : i + 6 ≤ N) (hRf : 12 ≤ R.frames) (hRl : 400 ≤ R.locals) (hRc : cells + 10 ≤ R.cells) (hRs : slots + 400 ≤ R.slots) (hL : LI s D a x e0 mo oo σ μ f H locs) (hRep : Rep σ x μ) (hl : lv_has ls 8 [(4, .int (nI i)), (3, .ref oo), (2, .ref mo), (1, .ref x), (0, .ref b)]) (hend : ∀ σ1 μ1 f1 H1 locs1 ls1, LI s D a x e0 mo oo σ1 μ1 f1 H1 locs1 → Rep σ1 x μ1 → lv_has ls1 8 [(4, .int (nI i)), (3, .ref oo), (2, .ref mo), (1, .ref x), (0, .ref b)] → W p l e R s m args below meth c H1 locs1 (cells + 10) (slots + 400) Q (F0 m 2214 ls1 [])) : W p l e R s m args below meth c H locs cells slots Q (F0 m 1105 ls []) := by
  have hx := C.1.1
  have hb := C.1.2.1
  have hbA : ¬ x ≤ b := by rw [hC.1]; omega
  have h1 : vp_in (nI i + 1) N := by rw [show (1 : Int32) = nI 1 from rfl, nI_add]; exact nI_in (by omega) (by omega)
  have h2 : vp_in (nI i + 2) N := by rw [show (2 : Int32) = nI 2 from rfl, nI_add]; exact nI_in (by omega) (by omega)
  have h3 : vp_in (nI i + 3) N := by rw [show (3 : Int32) = nI 3 from rfl, nI_add]; exact nI_in (by omega) (by omega)
  obtain ⟨a1, a2, a3, a4⟩ := br σ x μ (xs (nI i + 1).toNatClampNeg) (xs (nI i + 2).toNatClampNeg) (xs (nI i + 3).toNatClampNeg) hRep
  refine lv_aload_n hx hb dL_law__1105 rfl (lv_at hl 3 rfl) ?_
  refine lv_aload_n hx hb dL_law__1106 rfl (lv_at hl 4 rfl) ?_
  refine lv_iload hx hb dL_law__1107 (lv_at hl 0 rfl) ?_
  refine lv_iconst (v := 1) hx hb dL_law__1109 (by decide) ?_
  refine lv_iadd hx hb dL_law__1110 ?_
  refine va_sld (A := fun q => x ≤ q) hx hb hX hb0 hbA hL.2.2.2 h1 dL_law__1111 ?_
  refine lv_aload_n hx hb dL_law__1112 rfl (lv_at hl 4 rfl) ?_
  refine lv_iload hx hb dL_law__1113 (lv_at hl 0 rfl) ?_
  refine lv_iconst (v := 2) hx hb dL_law__1115 (by decide) ?_
  refine lv_iadd hx hb dL_law__1116 ?_
  refine va_sld (A := fun q => x ≤ q) hx hb hX hb0 hbA hL.2.2.2 h2 dL_law__1117 ?_
  refine lv_aload_n hx hb dL_law__1118 rfl (lv_at hl 4 rfl) ?_
  refine lv_iload hx hb dL_law__1119 (lv_at hl 0 rfl) ?_
  refine lv_iconst (v := 3) hx hb dL_law__1121 (by decide) ?_
  refine lv_iadd hx hb dL_law__1122 ?_
  refine va_sld (A := fun q => x ≤ q) hx hb hX hb0 hbA hL.2.2.2 h3 dL_law__1123 ?_
  refine lv_aload_n hx hb dL_law__1124 rfl (lv_at hl 1 rfl) ?_
  refine cl_H (av := [.ref x, .int (xs (nI i + 1).toNatClampNeg), .int (xs (nI i + 2).toNatClampNeg), .int (xs (nI i + 3).toNatClampNeg), .ref oo]) (rest := []) C hC hL (k_L_chance l D a x e0 (AW x mo oo) hfl oo f σ (xs (nI i + 1).toNatClampNeg) (xs (nI i + 2).toNatClampNeg) (xs (nI i + 3).toNatClampNeg) a1 a2) cwh_chance ⟨by omega, by omega⟩ rfl rfl hl.1 (Nat.le_of_ble_eq_true rfl) (by omega) (by omega) dL_law__1125 (fun H1 locs1 Nq hq hq0 hL => ?_)
  have a4 := a4 Nq f hq hq0
  generalize hh9 : hR cd_chance cvL (FL_chance σ x (xs (nI i + 1).toNatClampNeg) (xs (nI i + 2).toNatClampNeg) (xs (nI i + 3).toNatClampNeg) Nq) f σ = h9 at hL a4 ⊢
  refine lv_istore (lv' := [(5, .int h9.1), (4, .int (nI i)), (3, .ref oo), (2, .ref mo), (1, .ref x), (0, .ref b)]) hx hb dL_law__1128 hl (by decide) rfl (fun ls hl => ?_)
  refine lv_aload_n hx hb dL_law__1130 rfl (lv_at hl 3 rfl) ?_
  refine lv_aload_n hx hb dL_law__1131 rfl (lv_at hl 5 rfl) ?_
  refine lv_iload hx hb dL_law__1132 (lv_at hl 1 rfl) ?_
  refine lv_iconst (v := 1) hx hb dL_law__1134 (by decide) ?_
  refine lv_iadd hx hb dL_law__1135 ?_
  refine va_sld (A := fun q => x ≤ q) hx hb hX hb0 hbA hL.2.2.2 h1 dL_law__1136 ?_
  refine lv_aload_n hx hb dL_law__1137 rfl (lv_at hl 5 rfl) ?_
  refine lv_iload hx hb dL_law__1138 (lv_at hl 1 rfl) ?_
  refine lv_iconst (v := 2) hx hb dL_law__1140 (by decide) ?_
  refine lv_iadd hx hb dL_law__1141 ?_
  refine va_sld (A := fun q => x ≤ q) hx hb hX hb0 hbA hL.2.2.2 h2 dL_law__1142 ?_
  refine lv_aload_n hx hb dL_law__1143 rfl (lv_at hl 5 rfl) ?_
  refine lv_iload hx hb dL_law__1144 (lv_at hl 1 rfl) ?_
  refine lv_iconst (v := 3) hx hb dL_law__1146 (by decide) ?_
  refine lv_iadd hx hb dL_law__1147 ?_
  refine va_sld (A := fun q => x ≤ q) hx hb hX hb0 hbA hL.2.2.2 h3 dL_law__1148 ?_
  refine cl_M (av := [.int (xs (nI i + 1).toNatClampNeg), .int (xs (nI i + 2).toNatClampNeg), .int (xs (nI i + 3).toNatClampNeg)]) (rest := []) C hC hL (k_X11_chance l D a mo μ (xs (nI i + 1).toNatClampNeg) (xs (nI i + 2).toNatClampNeg) (xs (nI i + 3).toNatClampNeg) a3) cwm_175 (okR_of (F := R.frames) (L := R.locals) rfl rfl (by omega) (by omega)) rfl rfl hl.1 (Nat.le_of_ble_eq_true rfl) (by omega) (by omega) dL_law__1149 (fun H2 locs2 hL => ?_)
  refine lv_lstore (lv' := [(6, .long (f_X11_chance μ (xs (nI i + 1).toNatClampNeg) (xs (nI i + 2).toNatClampNeg) (xs (nI i + 3).toNatClampNeg)).1), (5, .int h9.1), (4, .int (nI i)), (3, .ref oo), (2, .ref mo), (1, .ref x), (0, .ref b)]) hx hb dL_law__1152 hl (by decide) rfl (fun ls hl => ?_)
  refine lv_aload_n hx hb dL_law__1154 rfl (lv_at hl 4 rfl) ?_
  refine cl_R (av := []) (rest := []) C hL (k_X11_thrown l D a mo (f_X11_chance μ (xs (nI i + 1).toNatClampNeg) (xs (nI i + 2).toNatClampNeg) (xs (nI i + 3).toNatClampNeg)).2) cwm_128 (okR_of (F := R.frames) (L := R.locals) rfl rfl (by omega) (by omega)) rfl rfl hl.1 (Nat.le_of_ble_eq_true rfl) (by omega) (by omega) dL_law__1155 ?_
  refine lv_iload hx hb dL_law__1158 (lv_at hl 1 rfl) ?_
  refine lv_icmp_eq (tgt := 1165) hx hb dL_law__1160 (by decide) (fun _ => ?_) (fun c => absurd a4.1 c)
  refine lv_iload hx hb dL_law__1165 (lv_at hl 1 rfl) ?_
  refine lv_if_ne (tgt := 1181) hx hb dL_law__1167 (by decide) (fun _ => ?_) (fun c8 => ?_)
  · skip
    refine lv_goto (tgt := 2214) hx hb dL_law__1181 (by decide) ?_
    exact W.widen (k := cells + 10) (n := slots + 400) (by omega) (by omega) (hend _ _ _ _ _ ls hL a4.2.2 (lv_sub hl [2, 3, 4, 5, 6] rfl))
  · have a5 := a4.2.1 c8
    refine lv_aload_n hx hb dL_law__1170 rfl (lv_at hl 3 rfl) ?_
    refine lv_iconst (v := 0) hx hb dL_law__1171 (by decide) ?_
    refine cl_out C hL dL_law__1172 ?_
    refine lv_lload hx hb dL_law__1173 (lv_at hl 0 rfl) ?_
    refine W.lcmp hx hb dL_law__1175 ?_
    rw [a5]
    refine lv_if_eq (tgt := 1181) hx hb dL_law__1176 (by decide) (fun _ => ?_) (fun c => absurd (cmp_self _) c)
    refine lv_goto (tgt := 2214) hx hb dL_law__1181 (by decide) ?_
    exact W.widen (k := cells + 10) (n := slots + 400) (by omega) (by omega) (hend _ _ _ _ _ ls hL a4.2.2 (lv_sub hl [2, 3, 4, 5, 6] rfl))
def Br_find (Rep : XS → Nat → MS → Prop) : Prop := ∀ (σ : XS) (x : Nat) (μ : MS) (p0 p1 p2 p3 p4 : Int32), Rep σ x μ → (∀ nq, xk σ nq = 0 → of_X10_find σ x nq p0 p1 p2 p3 p4) ∧ (∀ nq k, FL_find σ x p0 p1 p2 p3 p4 nq = .error k → k = 1 ∨ k = 2) ∧ (of_X11_find μ p0 p1 p2 p3 p4) ∧ (∀ nq f, xk σ nq = 0 → nq ≠ 0 → f_X11_thrown (f_X11_find μ p0 p1 p2 p3 p4).2 = (hR cd_find cvI (FL_find σ x p0 p1 p2 p3 p4 nq) f σ).1 ∧ ((hR cd_find cvI (FL_find σ x p0 p1 p2 p3 p4 nq) f σ).1 = 0 → (hR cd_find cvI (FL_find σ x p0 p1 p2 p3 p4 nq) f σ).2.1 0 = ((f_X11_find μ p0 p1 p2 p3 p4).1).toInt64) ∧ Rep (hR cd_find cvI (FL_find σ x p0 p1 p2 p3 p4 nq) f σ).2.2 x (f_X11_find μ p0 p1 p2 p3 p4).2)
set_option maxRecDepth 100000 in
theorem lawc_find (Rep : XS → Nat → MS → Prop) (br : Br_find Rep) {p : Program} {l : Launch} (hfl : l.stackTraces = false) {e : Env} {R : Room} {s : State} {m : MethodId} {args : Array Value} {below : List Frame} {meth : Method} {c : Code} {H : Heap} {locs : List Loc} {cells slots : Nat} {Q : State → Prop} {D : va_G} {a : Nat → ClassId} {x e0 mo oo b N i : Nat} {xs : Nat → Int32} {σ : XS} {μ : MS} {f : Nat → Int64} {ls : Array Slot} (C : Cx D a p s m args c cL_law_ 8 RL) (hC : LC s D a x e0 mo oo) (hX : va_X b N xs s s.heap) (hb0 : b < s.heap.size) (hN : N ≤ 3072) (hi : i + 6 ≤ N) (hRf : 12 ≤ R.frames) (hRl : 400 ≤ R.locals) (hRc : cells + 10 ≤ R.cells) (hRs : slots + 400 ≤ R.slots) (hL : LI s D a x e0 mo oo σ μ f H locs) (hRep : Rep σ x μ) (hl : lv_has ls 8 [(4, .int (nI i)), (3, .ref oo), (2, .ref mo), (1, .ref x), (0, .ref b)]) (hend : ∀ σ1 μ1 f1 H1 locs1 ls1, LI s D a x e0 mo oo σ1 μ1 f1 H1 locs1 → Rep σ1 x μ1 → lv_has ls1 8 [(4, .int (nI i)), (3, .ref oo), (2, .ref mo), (1, .ref x), (0, .ref b)] → W p l e R s m args below meth c H1 locs1 (cells + 10) (slots + 400) Q (F0 m 2214 ls1 [])) : W p l e R s m args below meth c H locs cells slots Q (F0 m 1184 ls []) := by
  have hx := C.1.1
  have hb := C.1.2.1
  have hbA : ¬ x ≤ b := by rw [hC.1]; omega
  have h1 : vp_in (nI i + 1) N := by rw [show (1 : Int32) = nI 1 from rfl, nI_add]; exact nI_in (by omega) (by omega)
  have h2 : vp_in (nI i + 2) N := by rw [show (2 : Int32) = nI 2 from rfl, nI_add]; exact nI_in (by omega) (by omega)
  have h3 : vp_in (nI i + 3) N := by rw [show (3 : Int32) = nI 3 from rfl, nI_add]; exact nI_in (by omega) (by omega)
  have h4 : vp_in (nI i + 4) N := by rw [show (4 : Int32) = nI 4 from rfl, nI_add]; exact nI_in (by omega) (by omega)
  have h5 : vp_in (nI i + 5) N := by rw [show (5 : Int32) = nI 5 from rfl, nI_add]; exact nI_in (by omega) (by omega)
  obtain ⟨a1, a2, a3, a4⟩ := br σ x μ (xs (nI i + 1).toNatClampNeg) (xs (nI i + 2).toNatClampNeg) (xs (nI i + 3).toNatClampNeg) (xs (nI i + 4).toNatClampNeg) (xs (nI i + 5).toNatClampNeg) hRep
  refine lv_aload_n hx hb dL_law__1184 rfl (lv_at hl 3 rfl) ?_
  refine lv_aload_n hx hb dL_law__1185 rfl (lv_at hl 4 rfl) ?_
  refine lv_iload hx hb dL_law__1186 (lv_at hl 0 rfl) ?_
  refine lv_iconst (v := 1) hx hb dL_law__1188 (by decide) ?_
  refine lv_iadd hx hb dL_law__1189 ?_
  refine va_sld (A := fun q => x ≤ q) hx hb hX hb0 hbA hL.2.2.2 h1 dL_law__1190 ?_
  refine lv_aload_n hx hb dL_law__1191 rfl (lv_at hl 4 rfl) ?_
  refine lv_iload hx hb dL_law__1192 (lv_at hl 0 rfl) ?_
  refine lv_iconst (v := 2) hx hb dL_law__1194 (by decide) ?_
  refine lv_iadd hx hb dL_law__1195 ?_
  refine va_sld (A := fun q => x ≤ q) hx hb hX hb0 hbA hL.2.2.2 h2 dL_law__1196 ?_
  refine lv_aload_n hx hb dL_law__1197 rfl (lv_at hl 4 rfl) ?_
  refine lv_iload hx hb dL_law__1198 (lv_at hl 0 rfl) ?_
  refine lv_iconst (v := 3) hx hb dL_law__1200 (by decide) ?_
  refine lv_iadd hx hb dL_law__1201 ?_
  refine va_sld (A := fun q => x ≤ q) hx hb hX hb0 hbA hL.2.2.2 h3 dL_law__1202 ?_
  refine lv_aload_n hx hb dL_law__1203 rfl (lv_at hl 4 rfl) ?_
  refine lv_iload hx hb dL_law__1204 (lv_at hl 0 rfl) ?_
  refine lv_iconst (v := 4) hx hb dL_law__1206 (by decide) ?_
  refine lv_iadd hx hb dL_law__1207 ?_
  refine va_sld (A := fun q => x ≤ q) hx hb hX hb0 hbA hL.2.2.2 h4 dL_law__1208 ?_
  refine lv_aload_n hx hb dL_law__1209 rfl (lv_at hl 4 rfl) ?_
  refine lv_iload hx hb dL_law__1210 (lv_at hl 0 rfl) ?_
  refine lv_iconst (v := 5) hx hb dL_law__1212 (by decide) ?_
  refine lv_iadd hx hb dL_law__1213 ?_
  refine va_sld (A := fun q => x ≤ q) hx hb hX hb0 hbA hL.2.2.2 h5 dL_law__1214 ?_
  refine lv_aload_n hx hb dL_law__1215 rfl (lv_at hl 1 rfl) ?_
  refine cl_H (av := [.ref x, .int (xs (nI i + 1).toNatClampNeg), .int (xs (nI i + 2).toNatClampNeg), .int (xs (nI i + 3).toNatClampNeg), .int (xs (nI i + 4).toNatClampNeg), .int (xs (nI i + 5).toNatClampNeg), .ref oo]) (rest := []) C hC hL (k_L_find l D a x e0 (AW x mo oo) hfl oo f σ (xs (nI i + 1).toNatClampNeg) (xs (nI i + 2).toNatClampNeg) (xs (nI i + 3).toNatClampNeg) (xs (nI i + 4).toNatClampNeg) (xs (nI i + 5).toNatClampNeg) a1 a2) cwh_find ⟨by omega, by omega⟩ rfl rfl hl.1 (Nat.le_of_ble_eq_true rfl) (by omega) (by omega) dL_law__1216 (fun H1 locs1 Nq hq hq0 hL => ?_)
  have a4 := a4 Nq f hq hq0
  generalize hh9 : hR cd_find cvI (FL_find σ x (xs (nI i + 1).toNatClampNeg) (xs (nI i + 2).toNatClampNeg) (xs (nI i + 3).toNatClampNeg) (xs (nI i + 4).toNatClampNeg) (xs (nI i + 5).toNatClampNeg) Nq) f σ = h9 at hL a4 ⊢
  refine lv_istore (lv' := [(5, .int h9.1), (4, .int (nI i)), (3, .ref oo), (2, .ref mo), (1, .ref x), (0, .ref b)]) hx hb dL_law__1219 hl (by decide) rfl (fun ls hl => ?_)
  refine lv_aload_n hx hb dL_law__1221 rfl (lv_at hl 3 rfl) ?_
  refine lv_aload_n hx hb dL_law__1222 rfl (lv_at hl 5 rfl) ?_
  refine lv_iload hx hb dL_law__1223 (lv_at hl 1 rfl) ?_
  refine lv_iconst (v := 1) hx hb dL_law__1225 (by decide) ?_
  refine lv_iadd hx hb dL_law__1226 ?_
  refine va_sld (A := fun q => x ≤ q) hx hb hX hb0 hbA hL.2.2.2 h1 dL_law__1227 ?_
  refine lv_aload_n hx hb dL_law__1228 rfl (lv_at hl 5 rfl) ?_
  refine lv_iload hx hb dL_law__1229 (lv_at hl 1 rfl) ?_
  refine lv_iconst (v := 2) hx hb dL_law__1231 (by decide) ?_
  refine lv_iadd hx hb dL_law__1232 ?_
  refine va_sld (A := fun q => x ≤ q) hx hb hX hb0 hbA hL.2.2.2 h2 dL_law__1233 ?_
  refine lv_aload_n hx hb dL_law__1234 rfl (lv_at hl 5 rfl) ?_
  refine lv_iload hx hb dL_law__1235 (lv_at hl 1 rfl) ?_
  refine lv_iconst (v := 3) hx hb dL_law__1237 (by decide) ?_
  refine lv_iadd hx hb dL_law__1238 ?_
  refine va_sld (A := fun q => x ≤ q) hx hb hX hb0 hbA hL.2.2.2 h3 dL_law__1239 ?_
  refine lv_aload_n hx hb dL_law__1240 rfl (lv_at hl 5 rfl) ?_
  refine lv_iload hx hb dL_law__1241 (lv_at hl 1 rfl) ?_
  refine lv_iconst (v := 4) hx hb dL_law__1243 (by decide) ?_
  refine lv_iadd hx hb dL_law__1244 ?_
  refine va_sld (A := fun q => x ≤ q) hx hb hX hb0 hbA hL.2.2.2 h4 dL_law__1245 ?_
  refine lv_aload_n hx hb dL_law__1246 rfl (lv_at hl 5 rfl) ?_
  refine lv_iload hx hb dL_law__1247 (lv_at hl 1 rfl) ?_
  refine lv_iconst (v := 5) hx hb dL_law__1249 (by decide) ?_
  refine lv_iadd hx hb dL_law__1250 ?_
  refine va_sld (A := fun q => x ≤ q) hx hb hX hb0 hbA hL.2.2.2 h5 dL_law__1251 ?_
  refine cl_M (av := [.int (xs (nI i + 1).toNatClampNeg), .int (xs (nI i + 2).toNatClampNeg), .int (xs (nI i + 3).toNatClampNeg), .int (xs (nI i + 4).toNatClampNeg), .int (xs (nI i + 5).toNatClampNeg)]) (rest := []) C hC hL (k_X11_find l D a mo μ (xs (nI i + 1).toNatClampNeg) (xs (nI i + 2).toNatClampNeg) (xs (nI i + 3).toNatClampNeg) (xs (nI i + 4).toNatClampNeg) (xs (nI i + 5).toNatClampNeg) a3) cwm_179 (okR_of (F := R.frames) (L := R.locals) rfl rfl (by omega) (by omega)) rfl rfl hl.1 (Nat.le_of_ble_eq_true rfl) (by omega) (by omega) dL_law__1252 (fun H2 locs2 hL => ?_)
  refine lv_istore (lv' := [(6, .int (f_X11_find μ (xs (nI i + 1).toNatClampNeg) (xs (nI i + 2).toNatClampNeg) (xs (nI i + 3).toNatClampNeg) (xs (nI i + 4).toNatClampNeg) (xs (nI i + 5).toNatClampNeg)).1), (5, .int h9.1), (4, .int (nI i)), (3, .ref oo), (2, .ref mo), (1, .ref x), (0, .ref b)]) hx hb dL_law__1255 hl (by decide) rfl (fun ls hl => ?_)
  refine lv_aload_n hx hb dL_law__1257 rfl (lv_at hl 4 rfl) ?_
  refine cl_R (av := []) (rest := []) C hL (k_X11_thrown l D a mo (f_X11_find μ (xs (nI i + 1).toNatClampNeg) (xs (nI i + 2).toNatClampNeg) (xs (nI i + 3).toNatClampNeg) (xs (nI i + 4).toNatClampNeg) (xs (nI i + 5).toNatClampNeg)).2) cwm_128 (okR_of (F := R.frames) (L := R.locals) rfl rfl (by omega) (by omega)) rfl rfl hl.1 (Nat.le_of_ble_eq_true rfl) (by omega) (by omega) dL_law__1258 ?_
  refine lv_iload hx hb dL_law__1261 (lv_at hl 1 rfl) ?_
  refine lv_icmp_eq (tgt := 1268) hx hb dL_law__1263 (by decide) (fun _ => ?_) (fun c => absurd a4.1 c)
  refine lv_iload hx hb dL_law__1268 (lv_at hl 1 rfl) ?_
  refine lv_if_ne (tgt := 1285) hx hb dL_law__1270 (by decide) (fun _ => ?_) (fun c8 => ?_)
  · skip
    refine lv_goto (tgt := 2214) hx hb dL_law__1285 (by decide) ?_
    exact W.widen (k := cells + 10) (n := slots + 400) (by omega) (by omega) (hend _ _ _ _ _ ls hL a4.2.2 (lv_sub hl [2, 3, 4, 5, 6] rfl))
  · have a5 := a4.2.1 c8
    refine lv_aload_n hx hb dL_law__1273 rfl (lv_at hl 3 rfl) ?_
    refine lv_iconst (v := 0) hx hb dL_law__1274 (by decide) ?_
    refine cl_out C hL dL_law__1275 ?_
    refine lv_iload hx hb dL_law__1276 (lv_at hl 0 rfl) ?_
    refine lv_i2l (v := ((f_X11_find μ (xs (nI i + 1).toNatClampNeg) (xs (nI i + 2).toNatClampNeg) (xs (nI i + 3).toNatClampNeg) (xs (nI i + 4).toNatClampNeg) (xs (nI i + 5).toNatClampNeg)).1).toInt64) hx hb dL_law__1278 rfl ?_
    refine W.lcmp hx hb dL_law__1279 ?_
    rw [a5]
    refine lv_if_eq (tgt := 1285) hx hb dL_law__1280 (by decide) (fun _ => ?_) (fun c => absurd (cmp_self _) c)
    refine lv_goto (tgt := 2214) hx hb dL_law__1285 (by decide) ?_
    exact W.widen (k := cells + 10) (n := slots + 400) (by omega) (by omega) (hend _ _ _ _ _ ls hL a4.2.2 (lv_sub hl [2, 3, 4, 5, 6] rfl))
def Br_fall (Rep : XS → Nat → MS → Prop) : Prop := ∀ (σ : XS) (x : Nat) (μ : MS) (p0 : Int32), Rep σ x μ → (of_X10_fall σ x p0) ∧ (∀ nq k, FL_fall σ x p0 nq = .error k → k = 3) ∧ (of_X11_fall μ p0) ∧ (∀ nq f, xk σ nq = 0 → nq ≠ 0 → f_X11_thrown (f_X11_fall μ p0).2 = (hR cd_fall cvI (FL_fall σ x p0 nq) f σ).1 ∧ ((hR cd_fall cvI (FL_fall σ x p0 nq) f σ).1 = 0 → (hR cd_fall cvI (FL_fall σ x p0 nq) f σ).2.1 0 = ((f_X11_fall μ p0).1).toInt64) ∧ Rep (hR cd_fall cvI (FL_fall σ x p0 nq) f σ).2.2 x (f_X11_fall μ p0).2)
set_option maxRecDepth 100000 in
theorem lawc_fall (Rep : XS → Nat → MS → Prop) (br : Br_fall Rep) {p : Program} {l : Launch} (hfl : l.stackTraces = false) {e : Env} {R : Room} {s : State} {m : MethodId} {args : Array Value} {below : List Frame} {meth : Method} {c : Code} {H : Heap} {locs : List Loc} {cells slots : Nat} {Q : State → Prop} {D : va_G} {a : Nat → ClassId} {x e0 mo oo b N i : Nat} {xs : Nat → Int32} {σ : XS} {μ : MS} {f : Nat → Int64} {ls : Array Slot} (C : Cx D a p s m args c cL_law_ 8 RL) (hC : LC s D a x e0 mo oo) (hX : va_X b N xs s s.heap) (hb0 : b < s.heap.size) (hN : N ≤ 3072) (hi : i + 6 ≤ N) (hRf : 12 ≤ R.frames) (hRl : 400 ≤ R.locals) (hRc : cells + 10 ≤ R.cells) (hRs : slots + 400 ≤ R.slots) (hL : LI s D a x e0 mo oo σ μ f H locs) (hRep : Rep σ x μ) (hl : lv_has ls 8 [(4, .int (nI i)), (3, .ref oo), (2, .ref mo), (1, .ref x), (0, .ref b)]) (hend : ∀ σ1 μ1 f1 H1 locs1 ls1, LI s D a x e0 mo oo σ1 μ1 f1 H1 locs1 → Rep σ1 x μ1 → lv_has ls1 8 [(4, .int (nI i)), (3, .ref oo), (2, .ref mo), (1, .ref x), (0, .ref b)] → W p l e R s m args below meth c H1 locs1 (cells + 10) (slots + 400) Q (F0 m 2214 ls1 [])) : W p l e R s m args below meth c H locs cells slots Q (F0 m 1288 ls []) := by
  have hx := C.1.1
  have hb := C.1.2.1
  have hbA : ¬ x ≤ b := by rw [hC.1]; omega
  have h1 : vp_in (nI i + 1) N := by rw [show (1 : Int32) = nI 1 from rfl, nI_add]; exact nI_in (by omega) (by omega)
  obtain ⟨a1, a2, a3, a4⟩ := br σ x μ (xs (nI i + 1).toNatClampNeg) hRep
  refine lv_aload_n hx hb dL_law__1288 rfl (lv_at hl 3 rfl) ?_
  refine lv_aload_n hx hb dL_law__1289 rfl (lv_at hl 4 rfl) ?_
  refine lv_iload hx hb dL_law__1290 (lv_at hl 0 rfl) ?_
  refine lv_iconst (v := 1) hx hb dL_law__1292 (by decide) ?_
  refine lv_iadd hx hb dL_law__1293 ?_
  refine va_sld (A := fun q => x ≤ q) hx hb hX hb0 hbA hL.2.2.2 h1 dL_law__1294 ?_
  refine lv_aload_n hx hb dL_law__1295 rfl (lv_at hl 1 rfl) ?_
  refine cl_H (av := [.ref x, .int (xs (nI i + 1).toNatClampNeg), .ref oo]) (rest := []) C hC hL (k_L_fall l D a x e0 (AW x mo oo) hfl oo f σ (xs (nI i + 1).toNatClampNeg) a1 a2) cwh_fall ⟨by omega, by omega⟩ rfl rfl hl.1 (Nat.le_of_ble_eq_true rfl) (by omega) (by omega) dL_law__1296 (fun H1 locs1 Nq hq hq0 hL => ?_)
  have a4 := a4 Nq f hq hq0
  generalize hh9 : hR cd_fall cvI (FL_fall σ x (xs (nI i + 1).toNatClampNeg) Nq) f σ = h9 at hL a4 ⊢
  refine lv_istore (lv' := [(5, .int h9.1), (4, .int (nI i)), (3, .ref oo), (2, .ref mo), (1, .ref x), (0, .ref b)]) hx hb dL_law__1299 hl (by decide) rfl (fun ls hl => ?_)
  refine lv_aload_n hx hb dL_law__1301 rfl (lv_at hl 3 rfl) ?_
  refine lv_aload_n hx hb dL_law__1302 rfl (lv_at hl 5 rfl) ?_
  refine lv_iload hx hb dL_law__1303 (lv_at hl 1 rfl) ?_
  refine lv_iconst (v := 1) hx hb dL_law__1305 (by decide) ?_
  refine lv_iadd hx hb dL_law__1306 ?_
  refine va_sld (A := fun q => x ≤ q) hx hb hX hb0 hbA hL.2.2.2 h1 dL_law__1307 ?_
  refine cl_M (av := [.int (xs (nI i + 1).toNatClampNeg)]) (rest := []) C hC hL (k_X11_fall l D a mo μ (xs (nI i + 1).toNatClampNeg) a3) cwm_182 (okR_of (F := R.frames) (L := R.locals) rfl rfl (by omega) (by omega)) rfl rfl hl.1 (Nat.le_of_ble_eq_true rfl) (by omega) (by omega) dL_law__1308 (fun H2 locs2 hL => ?_)
  refine lv_istore (lv' := [(6, .int (f_X11_fall μ (xs (nI i + 1).toNatClampNeg)).1), (5, .int h9.1), (4, .int (nI i)), (3, .ref oo), (2, .ref mo), (1, .ref x), (0, .ref b)]) hx hb dL_law__1311 hl (by decide) rfl (fun ls hl => ?_)
  refine lv_aload_n hx hb dL_law__1313 rfl (lv_at hl 4 rfl) ?_
  refine cl_R (av := []) (rest := []) C hL (k_X11_thrown l D a mo (f_X11_fall μ (xs (nI i + 1).toNatClampNeg)).2) cwm_128 (okR_of (F := R.frames) (L := R.locals) rfl rfl (by omega) (by omega)) rfl rfl hl.1 (Nat.le_of_ble_eq_true rfl) (by omega) (by omega) dL_law__1314 ?_
  refine lv_iload hx hb dL_law__1317 (lv_at hl 1 rfl) ?_
  refine lv_icmp_eq (tgt := 1324) hx hb dL_law__1319 (by decide) (fun _ => ?_) (fun c => absurd a4.1 c)
  refine lv_iload hx hb dL_law__1324 (lv_at hl 1 rfl) ?_
  refine lv_if_ne (tgt := 1341) hx hb dL_law__1326 (by decide) (fun _ => ?_) (fun c8 => ?_)
  · skip
    refine lv_goto (tgt := 2214) hx hb dL_law__1341 (by decide) ?_
    exact W.widen (k := cells + 10) (n := slots + 400) (by omega) (by omega) (hend _ _ _ _ _ ls hL a4.2.2 (lv_sub hl [2, 3, 4, 5, 6] rfl))
  · have a5 := a4.2.1 c8
    refine lv_aload_n hx hb dL_law__1329 rfl (lv_at hl 3 rfl) ?_
    refine lv_iconst (v := 0) hx hb dL_law__1330 (by decide) ?_
    refine cl_out C hL dL_law__1331 ?_
    refine lv_iload hx hb dL_law__1332 (lv_at hl 0 rfl) ?_
    refine lv_i2l (v := ((f_X11_fall μ (xs (nI i + 1).toNatClampNeg)).1).toInt64) hx hb dL_law__1334 rfl ?_
    refine W.lcmp hx hb dL_law__1335 ?_
    rw [a5]
    refine lv_if_eq (tgt := 1341) hx hb dL_law__1336 (by decide) (fun _ => ?_) (fun c => absurd (cmp_self _) c)
    refine lv_goto (tgt := 2214) hx hb dL_law__1341 (by decide) ?_
    exact W.widen (k := cells + 10) (n := slots + 400) (by omega) (by omega) (hend _ _ _ _ _ ls hL a4.2.2 (lv_sub hl [2, 3, 4, 5, 6] rfl))
def Br_minerals (Rep : XS → Nat → MS → Prop) : Prop := ∀ (σ : XS) (x : Nat) (μ : MS) (p0 p1 p2 p3 : Int32), Rep σ x μ → (of_X10_minerals σ x p0 p1 p2 p3) ∧ (∀ nq k, FL_minerals σ x p0 p1 p2 p3 nq = .error k → k = 3 ∨ k = 1) ∧ (of_X11_minerals μ p0 p1 p2 p3) ∧ (∀ nq f, xk σ nq = 0 → nq ≠ 0 → f_X11_thrown (f_X11_minerals μ p0 p1 p2 p3) = (hR cd_minerals cvV (FL_minerals σ x p0 p1 p2 p3 nq) f σ).1 ∧ Rep (hR cd_minerals cvV (FL_minerals σ x p0 p1 p2 p3 nq) f σ).2.2 x (f_X11_minerals μ p0 p1 p2 p3))
set_option maxRecDepth 100000 in
theorem lawc_minerals (Rep : XS → Nat → MS → Prop) (br : Br_minerals Rep) {p : Program} {l : Launch} (hfl : l.stackTraces = false) {e : Env} {R : Room} {s : State} {m : MethodId} {args : Array Value} {below : List Frame} {meth : Method} {c : Code} {H : Heap} {locs : List Loc} {cells slots : Nat} {Q : State → Prop} {D : va_G} {a : Nat → ClassId} {x e0 mo oo b N i : Nat} {xs : Nat → Int32} {σ : XS} {μ : MS} {f : Nat → Int64} {ls : Array Slot} (C : Cx D a p s m args c cL_law_ 8 RL) (hC : LC s D a x e0 mo oo) (hX : va_X b N xs s s.heap) (hb0 : b < s.heap.size) (hN : N ≤ 3072) (hi : i + 6 ≤ N) (hRf : 12 ≤ R.frames) (hRl : 400 ≤ R.locals) (hRc : cells + 10 ≤ R.cells) (hRs : slots + 400 ≤ R.slots) (hL : LI s D a x e0 mo oo σ μ f H locs) (hRep : Rep σ x μ) (hl : lv_has ls 8 [(4, .int (nI i)), (3, .ref oo), (2, .ref mo), (1, .ref x), (0, .ref b)]) (hend : ∀ σ1 μ1 f1 H1 locs1 ls1, LI s D a x e0 mo oo σ1 μ1 f1 H1 locs1 → Rep σ1 x μ1 → lv_has ls1 8 [(4, .int (nI i)), (3, .ref oo), (2, .ref mo), (1, .ref x), (0, .ref b)] → W p l e R s m args below meth c H1 locs1 (cells + 10) (slots + 400) Q (F0 m 2214 ls1 [])) : W p l e R s m args below meth c H locs cells slots Q (F0 m 1344 ls []) := by
  have hx := C.1.1
  have hb := C.1.2.1
  have hbA : ¬ x ≤ b := by rw [hC.1]; omega
  have h1 : vp_in (nI i + 1) N := by rw [show (1 : Int32) = nI 1 from rfl, nI_add]; exact nI_in (by omega) (by omega)
  have h2 : vp_in (nI i + 2) N := by rw [show (2 : Int32) = nI 2 from rfl, nI_add]; exact nI_in (by omega) (by omega)
  have h3 : vp_in (nI i + 3) N := by rw [show (3 : Int32) = nI 3 from rfl, nI_add]; exact nI_in (by omega) (by omega)
  have h4 : vp_in (nI i + 4) N := by rw [show (4 : Int32) = nI 4 from rfl, nI_add]; exact nI_in (by omega) (by omega)
  obtain ⟨a1, a2, a3, a4⟩ := br σ x μ (xs (nI i + 1).toNatClampNeg) (xs (nI i + 2).toNatClampNeg) (xs (nI i + 3).toNatClampNeg) (xs (nI i + 4).toNatClampNeg) hRep
  refine lv_aload_n hx hb dL_law__1344 rfl (lv_at hl 3 rfl) ?_
  refine lv_aload_n hx hb dL_law__1345 rfl (lv_at hl 4 rfl) ?_
  refine lv_iload hx hb dL_law__1346 (lv_at hl 0 rfl) ?_
  refine lv_iconst (v := 1) hx hb dL_law__1348 (by decide) ?_
  refine lv_iadd hx hb dL_law__1349 ?_
  refine va_sld (A := fun q => x ≤ q) hx hb hX hb0 hbA hL.2.2.2 h1 dL_law__1350 ?_
  refine lv_aload_n hx hb dL_law__1351 rfl (lv_at hl 4 rfl) ?_
  refine lv_iload hx hb dL_law__1352 (lv_at hl 0 rfl) ?_
  refine lv_iconst (v := 2) hx hb dL_law__1354 (by decide) ?_
  refine lv_iadd hx hb dL_law__1355 ?_
  refine va_sld (A := fun q => x ≤ q) hx hb hX hb0 hbA hL.2.2.2 h2 dL_law__1356 ?_
  refine lv_aload_n hx hb dL_law__1357 rfl (lv_at hl 4 rfl) ?_
  refine lv_iload hx hb dL_law__1358 (lv_at hl 0 rfl) ?_
  refine lv_iconst (v := 3) hx hb dL_law__1360 (by decide) ?_
  refine lv_iadd hx hb dL_law__1361 ?_
  refine va_sld (A := fun q => x ≤ q) hx hb hX hb0 hbA hL.2.2.2 h3 dL_law__1362 ?_
  refine lv_aload_n hx hb dL_law__1363 rfl (lv_at hl 4 rfl) ?_
  refine lv_iload hx hb dL_law__1364 (lv_at hl 0 rfl) ?_
  refine lv_iconst (v := 4) hx hb dL_law__1366 (by decide) ?_
  refine lv_iadd hx hb dL_law__1367 ?_
  refine va_sld (A := fun q => x ≤ q) hx hb hX hb0 hbA hL.2.2.2 h4 dL_law__1368 ?_
  refine cl_H (av := [.ref x, .int (xs (nI i + 1).toNatClampNeg), .int (xs (nI i + 2).toNatClampNeg), .int (xs (nI i + 3).toNatClampNeg), .int (xs (nI i + 4).toNatClampNeg)]) (rest := []) C hC hL (k_L_minerals l D a x e0 (AW x mo oo) hfl oo f σ (xs (nI i + 1).toNatClampNeg) (xs (nI i + 2).toNatClampNeg) (xs (nI i + 3).toNatClampNeg) (xs (nI i + 4).toNatClampNeg) a1 a2) cwh_minerals ⟨by omega, by omega⟩ rfl rfl hl.1 (Nat.le_of_ble_eq_true rfl) (by omega) (by omega) dL_law__1369 (fun H1 locs1 Nq hq hq0 hL => ?_)
  have a4 := a4 Nq f hq hq0
  generalize hh9 : hR cd_minerals cvV (FL_minerals σ x (xs (nI i + 1).toNatClampNeg) (xs (nI i + 2).toNatClampNeg) (xs (nI i + 3).toNatClampNeg) (xs (nI i + 4).toNatClampNeg) Nq) f σ = h9 at hL a4 ⊢
  refine lv_istore (lv' := [(5, .int h9.1), (4, .int (nI i)), (3, .ref oo), (2, .ref mo), (1, .ref x), (0, .ref b)]) hx hb dL_law__1372 hl (by decide) rfl (fun ls hl => ?_)
  refine lv_aload_n hx hb dL_law__1374 rfl (lv_at hl 3 rfl) ?_
  refine lv_aload_n hx hb dL_law__1375 rfl (lv_at hl 5 rfl) ?_
  refine lv_iload hx hb dL_law__1376 (lv_at hl 1 rfl) ?_
  refine lv_iconst (v := 1) hx hb dL_law__1378 (by decide) ?_
  refine lv_iadd hx hb dL_law__1379 ?_
  refine va_sld (A := fun q => x ≤ q) hx hb hX hb0 hbA hL.2.2.2 h1 dL_law__1380 ?_
  refine lv_aload_n hx hb dL_law__1381 rfl (lv_at hl 5 rfl) ?_
  refine lv_iload hx hb dL_law__1382 (lv_at hl 1 rfl) ?_
  refine lv_iconst (v := 2) hx hb dL_law__1384 (by decide) ?_
  refine lv_iadd hx hb dL_law__1385 ?_
  refine va_sld (A := fun q => x ≤ q) hx hb hX hb0 hbA hL.2.2.2 h2 dL_law__1386 ?_
  refine lv_aload_n hx hb dL_law__1387 rfl (lv_at hl 5 rfl) ?_
  refine lv_iload hx hb dL_law__1388 (lv_at hl 1 rfl) ?_
  refine lv_iconst (v := 3) hx hb dL_law__1390 (by decide) ?_
  refine lv_iadd hx hb dL_law__1391 ?_
  refine va_sld (A := fun q => x ≤ q) hx hb hX hb0 hbA hL.2.2.2 h3 dL_law__1392 ?_
  refine lv_aload_n hx hb dL_law__1393 rfl (lv_at hl 5 rfl) ?_
  refine lv_iload hx hb dL_law__1394 (lv_at hl 1 rfl) ?_
  refine lv_iconst (v := 4) hx hb dL_law__1396 (by decide) ?_
  refine lv_iadd hx hb dL_law__1397 ?_
  refine va_sld (A := fun q => x ≤ q) hx hb hX hb0 hbA hL.2.2.2 h4 dL_law__1398 ?_
  refine cl_M (av := [.int (xs (nI i + 1).toNatClampNeg), .int (xs (nI i + 2).toNatClampNeg), .int (xs (nI i + 3).toNatClampNeg), .int (xs (nI i + 4).toNatClampNeg)]) (rest := []) C hC hL (k_X11_minerals l D a mo μ (xs (nI i + 1).toNatClampNeg) (xs (nI i + 2).toNatClampNeg) (xs (nI i + 3).toNatClampNeg) (xs (nI i + 4).toNatClampNeg) a3) cwm_186 (okR_of (F := R.frames) (L := R.locals) rfl rfl (by omega) (by omega)) rfl rfl hl.1 (Nat.le_of_ble_eq_true rfl) (by omega) (by omega) dL_law__1399 (fun H2 locs2 hL => ?_)
  refine lv_aload_n hx hb dL_law__1402 rfl (lv_at hl 3 rfl) ?_
  refine cl_R (av := []) (rest := []) C hL (k_X11_thrown l D a mo (f_X11_minerals μ (xs (nI i + 1).toNatClampNeg) (xs (nI i + 2).toNatClampNeg) (xs (nI i + 3).toNatClampNeg) (xs (nI i + 4).toNatClampNeg))) cwm_128 (okR_of (F := R.frames) (L := R.locals) rfl rfl (by omega) (by omega)) rfl rfl hl.1 (Nat.le_of_ble_eq_true rfl) (by omega) (by omega) dL_law__1403 ?_
  refine lv_iload hx hb dL_law__1406 (lv_at hl 0 rfl) ?_
  refine lv_icmp_eq (tgt := 1413) hx hb dL_law__1408 (by decide) (fun _ => ?_) (fun c => absurd a4.1 c)
  refine lv_goto (tgt := 2214) hx hb dL_law__1413 (by decide) ?_
  exact W.widen (k := cells + 10) (n := slots + 400) (by omega) (by omega) (hend _ _ _ _ _ ls hL a4.2 (lv_sub hl [1, 2, 3, 4, 5] rfl))
def Br_rule (Rep : XS → Nat → MS → Prop) : Prop := ∀ (σ : XS) (x : Nat) (μ : MS) (p0 p1 p2 : Int32), Rep σ x μ → (∀ nq, xk σ nq = 0 → of_X10_rule σ x nq p0 p1 p2) ∧ (∀ nq k, FL_rule σ x p0 p1 p2 nq = .error k → k = 1) ∧ (of_X11_rule μ p0 p1 p2) ∧ (∀ nq f, xk σ nq = 0 → nq ≠ 0 → f_X11_thrown (f_X11_rule μ p0 p1 p2) = (hR cd_rule cvV (FL_rule σ x p0 p1 p2 nq) f σ).1 ∧ Rep (hR cd_rule cvV (FL_rule σ x p0 p1 p2 nq) f σ).2.2 x (f_X11_rule μ p0 p1 p2))
set_option maxRecDepth 100000 in
theorem lawc_rule (Rep : XS → Nat → MS → Prop) (br : Br_rule Rep) {p : Program} {l : Launch} (hfl : l.stackTraces = false) {e : Env} {R : Room} {s : State} {m : MethodId} {args : Array Value} {below : List Frame} {meth : Method} {c : Code} {H : Heap} {locs : List Loc} {cells slots : Nat} {Q : State → Prop} {D : va_G} {a : Nat → ClassId} {x e0 mo oo b N i : Nat} {xs : Nat → Int32} {σ : XS} {μ : MS} {f : Nat → Int64} {ls : Array Slot} (C : Cx D a p s m args c cL_law_ 8 RL) (hC : LC s D a x e0 mo oo) (hX : va_X b N xs s s.heap) (hb0 : b < s.heap.size) (hN : N ≤ 3072) (hi : i + 6 ≤ N) (hRf : 12 ≤ R.frames) (hRl : 400 ≤ R.locals) (hRc : cells + 10 ≤ R.cells) (hRs : slots + 400 ≤ R.slots) (hL : LI s D a x e0 mo oo σ μ f H locs) (hRep : Rep σ x μ) (hl : lv_has ls 8 [(4, .int (nI i)), (3, .ref oo), (2, .ref mo), (1, .ref x), (0, .ref b)]) (hend : ∀ σ1 μ1 f1 H1 locs1 ls1, LI s D a x e0 mo oo σ1 μ1 f1 H1 locs1 → Rep σ1 x μ1 → lv_has ls1 8 [(4, .int (nI i)), (3, .ref oo), (2, .ref mo), (1, .ref x), (0, .ref b)] → W p l e R s m args below meth c H1 locs1 (cells + 10) (slots + 400) Q (F0 m 2214 ls1 [])) : W p l e R s m args below meth c H locs cells slots Q (F0 m 1416 ls []) := by
  have hx := C.1.1
  have hb := C.1.2.1
  have hbA : ¬ x ≤ b := by rw [hC.1]; omega
  have h1 : vp_in (nI i + 1) N := by rw [show (1 : Int32) = nI 1 from rfl, nI_add]; exact nI_in (by omega) (by omega)
  have h2 : vp_in (nI i + 2) N := by rw [show (2 : Int32) = nI 2 from rfl, nI_add]; exact nI_in (by omega) (by omega)
  have h3 : vp_in (nI i + 3) N := by rw [show (3 : Int32) = nI 3 from rfl, nI_add]; exact nI_in (by omega) (by omega)
  obtain ⟨a1, a2, a3, a4⟩ := br σ x μ (xs (nI i + 1).toNatClampNeg) (xs (nI i + 2).toNatClampNeg) (xs (nI i + 3).toNatClampNeg) hRep
  refine lv_aload_n hx hb dL_law__1416 rfl (lv_at hl 3 rfl) ?_
  refine lv_aload_n hx hb dL_law__1417 rfl (lv_at hl 4 rfl) ?_
  refine lv_iload hx hb dL_law__1418 (lv_at hl 0 rfl) ?_
  refine lv_iconst (v := 1) hx hb dL_law__1420 (by decide) ?_
  refine lv_iadd hx hb dL_law__1421 ?_
  refine va_sld (A := fun q => x ≤ q) hx hb hX hb0 hbA hL.2.2.2 h1 dL_law__1422 ?_
  refine lv_aload_n hx hb dL_law__1423 rfl (lv_at hl 4 rfl) ?_
  refine lv_iload hx hb dL_law__1424 (lv_at hl 0 rfl) ?_
  refine lv_iconst (v := 2) hx hb dL_law__1426 (by decide) ?_
  refine lv_iadd hx hb dL_law__1427 ?_
  refine va_sld (A := fun q => x ≤ q) hx hb hX hb0 hbA hL.2.2.2 h2 dL_law__1428 ?_
  refine lv_aload_n hx hb dL_law__1429 rfl (lv_at hl 4 rfl) ?_
  refine lv_iload hx hb dL_law__1430 (lv_at hl 0 rfl) ?_
  refine lv_iconst (v := 3) hx hb dL_law__1432 (by decide) ?_
  refine lv_iadd hx hb dL_law__1433 ?_
  refine va_sld (A := fun q => x ≤ q) hx hb hX hb0 hbA hL.2.2.2 h3 dL_law__1434 ?_
  refine cl_H (av := [.ref x, .int (xs (nI i + 1).toNatClampNeg), .int (xs (nI i + 2).toNatClampNeg), .int (xs (nI i + 3).toNatClampNeg)]) (rest := []) C hC hL (k_L_rule l D a x e0 (AW x mo oo) hfl oo f σ (xs (nI i + 1).toNatClampNeg) (xs (nI i + 2).toNatClampNeg) (xs (nI i + 3).toNatClampNeg) a1 a2) cwh_rule ⟨by omega, by omega⟩ rfl rfl hl.1 (Nat.le_of_ble_eq_true rfl) (by omega) (by omega) dL_law__1435 (fun H1 locs1 Nq hq hq0 hL => ?_)
  have a4 := a4 Nq f hq hq0
  generalize hh9 : hR cd_rule cvV (FL_rule σ x (xs (nI i + 1).toNatClampNeg) (xs (nI i + 2).toNatClampNeg) (xs (nI i + 3).toNatClampNeg) Nq) f σ = h9 at hL a4 ⊢
  refine lv_istore (lv' := [(5, .int h9.1), (4, .int (nI i)), (3, .ref oo), (2, .ref mo), (1, .ref x), (0, .ref b)]) hx hb dL_law__1438 hl (by decide) rfl (fun ls hl => ?_)
  refine lv_aload_n hx hb dL_law__1440 rfl (lv_at hl 3 rfl) ?_
  refine lv_aload_n hx hb dL_law__1441 rfl (lv_at hl 5 rfl) ?_
  refine lv_iload hx hb dL_law__1442 (lv_at hl 1 rfl) ?_
  refine lv_iconst (v := 1) hx hb dL_law__1444 (by decide) ?_
  refine lv_iadd hx hb dL_law__1445 ?_
  refine va_sld (A := fun q => x ≤ q) hx hb hX hb0 hbA hL.2.2.2 h1 dL_law__1446 ?_
  refine lv_aload_n hx hb dL_law__1447 rfl (lv_at hl 5 rfl) ?_
  refine lv_iload hx hb dL_law__1448 (lv_at hl 1 rfl) ?_
  refine lv_iconst (v := 2) hx hb dL_law__1450 (by decide) ?_
  refine lv_iadd hx hb dL_law__1451 ?_
  refine va_sld (A := fun q => x ≤ q) hx hb hX hb0 hbA hL.2.2.2 h2 dL_law__1452 ?_
  refine lv_aload_n hx hb dL_law__1453 rfl (lv_at hl 5 rfl) ?_
  refine lv_iload hx hb dL_law__1454 (lv_at hl 1 rfl) ?_
  refine lv_iconst (v := 3) hx hb dL_law__1456 (by decide) ?_
  refine lv_iadd hx hb dL_law__1457 ?_
  refine va_sld (A := fun q => x ≤ q) hx hb hX hb0 hbA hL.2.2.2 h3 dL_law__1458 ?_
  refine cl_M (av := [.int (xs (nI i + 1).toNatClampNeg), .int (xs (nI i + 2).toNatClampNeg), .int (xs (nI i + 3).toNatClampNeg)]) (rest := []) C hC hL (k_X11_rule l D a mo μ (xs (nI i + 1).toNatClampNeg) (xs (nI i + 2).toNatClampNeg) (xs (nI i + 3).toNatClampNeg) a3) cwm_189 (okR_of (F := R.frames) (L := R.locals) rfl rfl (by omega) (by omega)) rfl rfl hl.1 (Nat.le_of_ble_eq_true rfl) (by omega) (by omega) dL_law__1459 (fun H2 locs2 hL => ?_)
  refine lv_aload_n hx hb dL_law__1462 rfl (lv_at hl 3 rfl) ?_
  refine cl_R (av := []) (rest := []) C hL (k_X11_thrown l D a mo (f_X11_rule μ (xs (nI i + 1).toNatClampNeg) (xs (nI i + 2).toNatClampNeg) (xs (nI i + 3).toNatClampNeg))) cwm_128 (okR_of (F := R.frames) (L := R.locals) rfl rfl (by omega) (by omega)) rfl rfl hl.1 (Nat.le_of_ble_eq_true rfl) (by omega) (by omega) dL_law__1463 ?_
  refine lv_iload hx hb dL_law__1466 (lv_at hl 0 rfl) ?_
  refine lv_icmp_eq (tgt := 1473) hx hb dL_law__1468 (by decide) (fun _ => ?_) (fun c => absurd a4.1 c)
  refine lv_goto (tgt := 2214) hx hb dL_law__1473 (by decide) ?_
  exact W.widen (k := cells + 10) (n := slots + 400) (by omega) (by omega) (hend _ _ _ _ _ ls hL a4.2 (lv_sub hl [1, 2, 3, 4, 5] rfl))
def Br_classOf (Rep : XS → Nat → MS → Prop) : Prop := ∀ (σ : XS) (x : Nat) (μ : MS) (p0 p1 : Int32), Rep σ x μ → (of_X10_classOf σ x p0 p1) ∧ (∀ nq k, FL_classOf σ x p0 p1 nq = .error k → k = 3 ∨ k = 1) ∧ (of_X11_classOf μ p0 p1) ∧ (∀ nq f, xk σ nq = 0 → nq ≠ 0 → f_X11_thrown (f_X11_classOf μ p0 p1).2 = (hR cd_classOf cvI (FL_classOf σ x p0 p1 nq) f σ).1 ∧ ((hR cd_classOf cvI (FL_classOf σ x p0 p1 nq) f σ).1 = 0 → (hR cd_classOf cvI (FL_classOf σ x p0 p1 nq) f σ).2.1 0 = ((f_X11_classOf μ p0 p1).1).toInt64) ∧ Rep (hR cd_classOf cvI (FL_classOf σ x p0 p1 nq) f σ).2.2 x (f_X11_classOf μ p0 p1).2)
set_option maxRecDepth 100000 in
theorem lawc_classOf (Rep : XS → Nat → MS → Prop) (br : Br_classOf Rep) {p : Program} {l : Launch} (hfl : l.stackTraces = false) {e : Env} {R : Room} {s : State} {m : MethodId} {args : Array Value} {below : List Frame} {meth : Method} {c : Code} {H : Heap} {locs : List Loc} {cells slots : Nat} {Q : State → Prop} {D : va_G} {a : Nat → ClassId} {x e0 mo oo b N i : Nat} {xs : Nat → Int32} {σ : XS} {μ : MS} {f : Nat → Int64} {ls : Array Slot} (C : Cx D a p s m args c cL_law_ 8 RL) (hC : LC s D a x e0 mo oo) (hX : va_X b N xs s s.heap) (hb0 : b < s.heap.size) (hN : N ≤ 3072) (hi : i + 6 ≤ N) (hRf : 12 ≤ R.frames) (hRl : 400 ≤ R.locals) (hRc : cells + 10 ≤ R.cells) (hRs : slots + 400 ≤ R.slots) (hL : LI s D a x e0 mo oo σ μ f H locs) (hRep : Rep σ x μ) (hl : lv_has ls 8 [(4, .int (nI i)), (3, .ref oo), (2, .ref mo), (1, .ref x), (0, .ref b)]) (hend : ∀ σ1 μ1 f1 H1 locs1 ls1, LI s D a x e0 mo oo σ1 μ1 f1 H1 locs1 → Rep σ1 x μ1 → lv_has ls1 8 [(4, .int (nI i)), (3, .ref oo), (2, .ref mo), (1, .ref x), (0, .ref b)] → W p l e R s m args below meth c H1 locs1 (cells + 10) (slots + 400) Q (F0 m 2214 ls1 [])) : W p l e R s m args below meth c H locs cells slots Q (F0 m 1476 ls []) := by
  have hx := C.1.1
  have hb := C.1.2.1
  have hbA : ¬ x ≤ b := by rw [hC.1]; omega
  have h1 : vp_in (nI i + 1) N := by rw [show (1 : Int32) = nI 1 from rfl, nI_add]; exact nI_in (by omega) (by omega)
  have h2 : vp_in (nI i + 2) N := by rw [show (2 : Int32) = nI 2 from rfl, nI_add]; exact nI_in (by omega) (by omega)
  obtain ⟨a1, a2, a3, a4⟩ := br σ x μ (xs (nI i + 1).toNatClampNeg) (xs (nI i + 2).toNatClampNeg) hRep
  refine lv_aload_n hx hb dL_law__1476 rfl (lv_at hl 3 rfl) ?_
  refine lv_aload_n hx hb dL_law__1477 rfl (lv_at hl 4 rfl) ?_
  refine lv_iload hx hb dL_law__1478 (lv_at hl 0 rfl) ?_
  refine lv_iconst (v := 1) hx hb dL_law__1480 (by decide) ?_
  refine lv_iadd hx hb dL_law__1481 ?_
  refine va_sld (A := fun q => x ≤ q) hx hb hX hb0 hbA hL.2.2.2 h1 dL_law__1482 ?_
  refine lv_aload_n hx hb dL_law__1483 rfl (lv_at hl 4 rfl) ?_
  refine lv_iload hx hb dL_law__1484 (lv_at hl 0 rfl) ?_
  refine lv_iconst (v := 2) hx hb dL_law__1486 (by decide) ?_
  refine lv_iadd hx hb dL_law__1487 ?_
  refine va_sld (A := fun q => x ≤ q) hx hb hX hb0 hbA hL.2.2.2 h2 dL_law__1488 ?_
  refine lv_aload_n hx hb dL_law__1489 rfl (lv_at hl 1 rfl) ?_
  refine cl_H (av := [.ref x, .int (xs (nI i + 1).toNatClampNeg), .int (xs (nI i + 2).toNatClampNeg), .ref oo]) (rest := []) C hC hL (k_L_classOf l D a x e0 (AW x mo oo) hfl oo f σ (xs (nI i + 1).toNatClampNeg) (xs (nI i + 2).toNatClampNeg) a1 a2) cwh_classOf ⟨by omega, by omega⟩ rfl rfl hl.1 (Nat.le_of_ble_eq_true rfl) (by omega) (by omega) dL_law__1490 (fun H1 locs1 Nq hq hq0 hL => ?_)
  have a4 := a4 Nq f hq hq0
  generalize hh9 : hR cd_classOf cvI (FL_classOf σ x (xs (nI i + 1).toNatClampNeg) (xs (nI i + 2).toNatClampNeg) Nq) f σ = h9 at hL a4 ⊢
  refine lv_istore (lv' := [(5, .int h9.1), (4, .int (nI i)), (3, .ref oo), (2, .ref mo), (1, .ref x), (0, .ref b)]) hx hb dL_law__1493 hl (by decide) rfl (fun ls hl => ?_)
  refine lv_aload_n hx hb dL_law__1495 rfl (lv_at hl 3 rfl) ?_
  refine lv_aload_n hx hb dL_law__1496 rfl (lv_at hl 5 rfl) ?_
  refine lv_iload hx hb dL_law__1497 (lv_at hl 1 rfl) ?_
  refine lv_iconst (v := 1) hx hb dL_law__1499 (by decide) ?_
  refine lv_iadd hx hb dL_law__1500 ?_
  refine va_sld (A := fun q => x ≤ q) hx hb hX hb0 hbA hL.2.2.2 h1 dL_law__1501 ?_
  refine lv_aload_n hx hb dL_law__1502 rfl (lv_at hl 5 rfl) ?_
  refine lv_iload hx hb dL_law__1503 (lv_at hl 1 rfl) ?_
  refine lv_iconst (v := 2) hx hb dL_law__1505 (by decide) ?_
  refine lv_iadd hx hb dL_law__1506 ?_
  refine va_sld (A := fun q => x ≤ q) hx hb hX hb0 hbA hL.2.2.2 h2 dL_law__1507 ?_
  refine cl_M (av := [.int (xs (nI i + 1).toNatClampNeg), .int (xs (nI i + 2).toNatClampNeg)]) (rest := []) C hC hL (k_X11_classOf l D a mo μ (xs (nI i + 1).toNatClampNeg) (xs (nI i + 2).toNatClampNeg) a3) cwm_192 (okR_of (F := R.frames) (L := R.locals) rfl rfl (by omega) (by omega)) rfl rfl hl.1 (Nat.le_of_ble_eq_true rfl) (by omega) (by omega) dL_law__1508 (fun H2 locs2 hL => ?_)
  refine lv_istore (lv' := [(6, .int (f_X11_classOf μ (xs (nI i + 1).toNatClampNeg) (xs (nI i + 2).toNatClampNeg)).1), (5, .int h9.1), (4, .int (nI i)), (3, .ref oo), (2, .ref mo), (1, .ref x), (0, .ref b)]) hx hb dL_law__1511 hl (by decide) rfl (fun ls hl => ?_)
  refine lv_aload_n hx hb dL_law__1513 rfl (lv_at hl 4 rfl) ?_
  refine cl_R (av := []) (rest := []) C hL (k_X11_thrown l D a mo (f_X11_classOf μ (xs (nI i + 1).toNatClampNeg) (xs (nI i + 2).toNatClampNeg)).2) cwm_128 (okR_of (F := R.frames) (L := R.locals) rfl rfl (by omega) (by omega)) rfl rfl hl.1 (Nat.le_of_ble_eq_true rfl) (by omega) (by omega) dL_law__1514 ?_
  refine lv_iload hx hb dL_law__1517 (lv_at hl 1 rfl) ?_
  refine lv_icmp_eq (tgt := 1524) hx hb dL_law__1519 (by decide) (fun _ => ?_) (fun c => absurd a4.1 c)
  refine lv_iload hx hb dL_law__1524 (lv_at hl 1 rfl) ?_
  refine lv_if_ne (tgt := 1541) hx hb dL_law__1526 (by decide) (fun _ => ?_) (fun c8 => ?_)
  · skip
    refine lv_goto (tgt := 2214) hx hb dL_law__1541 (by decide) ?_
    exact W.widen (k := cells + 10) (n := slots + 400) (by omega) (by omega) (hend _ _ _ _ _ ls hL a4.2.2 (lv_sub hl [2, 3, 4, 5, 6] rfl))
  · have a5 := a4.2.1 c8
    refine lv_aload_n hx hb dL_law__1529 rfl (lv_at hl 3 rfl) ?_
    refine lv_iconst (v := 0) hx hb dL_law__1530 (by decide) ?_
    refine cl_out C hL dL_law__1531 ?_
    refine lv_iload hx hb dL_law__1532 (lv_at hl 0 rfl) ?_
    refine lv_i2l (v := ((f_X11_classOf μ (xs (nI i + 1).toNatClampNeg) (xs (nI i + 2).toNatClampNeg)).1).toInt64) hx hb dL_law__1534 rfl ?_
    refine W.lcmp hx hb dL_law__1535 ?_
    rw [a5]
    refine lv_if_eq (tgt := 1541) hx hb dL_law__1536 (by decide) (fun _ => ?_) (fun c => absurd (cmp_self _) c)
    refine lv_goto (tgt := 2214) hx hb dL_law__1541 (by decide) ?_
    exact W.widen (k := cells + 10) (n := slots + 400) (by omega) (by omega) (hend _ _ _ _ _ ls hL a4.2.2 (lv_sub hl [2, 3, 4, 5, 6] rfl))
def Br_pair (Rep : XS → Nat → MS → Prop) : Prop := ∀ (σ : XS) (x : Nat) (μ : MS) (p0 p1 p2 : Int32), Rep σ x μ → (of_X10_pair σ x p0 p1 p2) ∧ (∀ nq k, FL_pair σ x p0 p1 p2 nq = .error k → k = 3 ∨ k = 1) ∧ (of_X11_pair μ p0 p1 p2) ∧ (∀ nq f, xk σ nq = 0 → nq ≠ 0 → f_X11_thrown (f_X11_pair μ p0 p1 p2).2 = (hR cd_pair cvZ (FL_pair σ x p0 p1 p2 nq) f σ).1 ∧ ((hR cd_pair cvZ (FL_pair σ x p0 p1 p2 nq) f σ).1 = 0 → (hR cd_pair cvZ (FL_pair σ x p0 p1 p2 nq) f σ).2.1 0 = (if (f_X11_pair μ p0 p1 p2).1 = 0 then 0 else 1)) ∧ Rep (hR cd_pair cvZ (FL_pair σ x p0 p1 p2 nq) f σ).2.2 x (f_X11_pair μ p0 p1 p2).2)
set_option maxRecDepth 100000 in
theorem lawc_pair (Rep : XS → Nat → MS → Prop) (br : Br_pair Rep) {p : Program} {l : Launch} (hfl : l.stackTraces = false) {e : Env} {R : Room} {s : State} {m : MethodId} {args : Array Value} {below : List Frame} {meth : Method} {c : Code} {H : Heap} {locs : List Loc} {cells slots : Nat} {Q : State → Prop} {D : va_G} {a : Nat → ClassId} {x e0 mo oo b N i : Nat} {xs : Nat → Int32} {σ : XS} {μ : MS} {f : Nat → Int64} {ls : Array Slot} (C : Cx D a p s m args c cL_law_ 8 RL) (hC : LC s D a x e0 mo oo) (hX : va_X b N xs s s.heap) (hb0 : b < s.heap.size) (hN : N ≤ 3072) (hi : i + 6 ≤ N) (hRf : 12 ≤ R.frames) (hRl : 400 ≤ R.locals) (hRc : cells + 10 ≤ R.cells) (hRs : slots + 400 ≤ R.slots) (hL : LI s D a x e0 mo oo σ μ f H locs) (hRep : Rep σ x μ) (hl : lv_has ls 8 [(4, .int (nI i)), (3, .ref oo), (2, .ref mo), (1, .ref x), (0, .ref b)]) (hend : ∀ σ1 μ1 f1 H1 locs1 ls1, LI s D a x e0 mo oo σ1 μ1 f1 H1 locs1 → Rep σ1 x μ1 → lv_has ls1 8 [(4, .int (nI i)), (3, .ref oo), (2, .ref mo), (1, .ref x), (0, .ref b)] → W p l e R s m args below meth c H1 locs1 (cells + 10) (slots + 400) Q (F0 m 2214 ls1 [])) : W p l e R s m args below meth c H locs cells slots Q (F0 m 1544 ls []) := by
  have hx := C.1.1
  have hb := C.1.2.1
  have hbA : ¬ x ≤ b := by rw [hC.1]; omega
  have h1 : vp_in (nI i + 1) N := by rw [show (1 : Int32) = nI 1 from rfl, nI_add]; exact nI_in (by omega) (by omega)
  have h2 : vp_in (nI i + 2) N := by rw [show (2 : Int32) = nI 2 from rfl, nI_add]; exact nI_in (by omega) (by omega)
  have h3 : vp_in (nI i + 3) N := by rw [show (3 : Int32) = nI 3 from rfl, nI_add]; exact nI_in (by omega) (by omega)
  obtain ⟨a1, a2, a3, a4⟩ := br σ x μ (xs (nI i + 1).toNatClampNeg) (xs (nI i + 2).toNatClampNeg) (xs (nI i + 3).toNatClampNeg) hRep
  refine lv_aload_n hx hb dL_law__1544 rfl (lv_at hl 3 rfl) ?_
  refine lv_aload_n hx hb dL_law__1545 rfl (lv_at hl 4 rfl) ?_
  refine lv_iload hx hb dL_law__1546 (lv_at hl 0 rfl) ?_
  refine lv_iconst (v := 1) hx hb dL_law__1548 (by decide) ?_
  refine lv_iadd hx hb dL_law__1549 ?_
  refine va_sld (A := fun q => x ≤ q) hx hb hX hb0 hbA hL.2.2.2 h1 dL_law__1550 ?_
  refine lv_aload_n hx hb dL_law__1551 rfl (lv_at hl 4 rfl) ?_
  refine lv_iload hx hb dL_law__1552 (lv_at hl 0 rfl) ?_
  refine lv_iconst (v := 2) hx hb dL_law__1554 (by decide) ?_
  refine lv_iadd hx hb dL_law__1555 ?_
  refine va_sld (A := fun q => x ≤ q) hx hb hX hb0 hbA hL.2.2.2 h2 dL_law__1556 ?_
  refine lv_aload_n hx hb dL_law__1557 rfl (lv_at hl 4 rfl) ?_
  refine lv_iload hx hb dL_law__1558 (lv_at hl 0 rfl) ?_
  refine lv_iconst (v := 3) hx hb dL_law__1560 (by decide) ?_
  refine lv_iadd hx hb dL_law__1561 ?_
  refine va_sld (A := fun q => x ≤ q) hx hb hX hb0 hbA hL.2.2.2 h3 dL_law__1562 ?_
  refine lv_aload_n hx hb dL_law__1563 rfl (lv_at hl 1 rfl) ?_
  refine cl_H (av := [.ref x, .int (xs (nI i + 1).toNatClampNeg), .int (xs (nI i + 2).toNatClampNeg), .int (xs (nI i + 3).toNatClampNeg), .ref oo]) (rest := []) C hC hL (k_L_pair l D a x e0 (AW x mo oo) hfl oo f σ (xs (nI i + 1).toNatClampNeg) (xs (nI i + 2).toNatClampNeg) (xs (nI i + 3).toNatClampNeg) a1 a2) cwh_pair ⟨by omega, by omega⟩ rfl rfl hl.1 (Nat.le_of_ble_eq_true rfl) (by omega) (by omega) dL_law__1564 (fun H1 locs1 Nq hq hq0 hL => ?_)
  have a4 := a4 Nq f hq hq0
  generalize hh9 : hR cd_pair cvZ (FL_pair σ x (xs (nI i + 1).toNatClampNeg) (xs (nI i + 2).toNatClampNeg) (xs (nI i + 3).toNatClampNeg) Nq) f σ = h9 at hL a4 ⊢
  refine lv_istore (lv' := [(5, .int h9.1), (4, .int (nI i)), (3, .ref oo), (2, .ref mo), (1, .ref x), (0, .ref b)]) hx hb dL_law__1567 hl (by decide) rfl (fun ls hl => ?_)
  refine lv_aload_n hx hb dL_law__1569 rfl (lv_at hl 3 rfl) ?_
  refine lv_aload_n hx hb dL_law__1570 rfl (lv_at hl 5 rfl) ?_
  refine lv_iload hx hb dL_law__1571 (lv_at hl 1 rfl) ?_
  refine lv_iconst (v := 1) hx hb dL_law__1573 (by decide) ?_
  refine lv_iadd hx hb dL_law__1574 ?_
  refine va_sld (A := fun q => x ≤ q) hx hb hX hb0 hbA hL.2.2.2 h1 dL_law__1575 ?_
  refine lv_aload_n hx hb dL_law__1576 rfl (lv_at hl 5 rfl) ?_
  refine lv_iload hx hb dL_law__1577 (lv_at hl 1 rfl) ?_
  refine lv_iconst (v := 2) hx hb dL_law__1579 (by decide) ?_
  refine lv_iadd hx hb dL_law__1580 ?_
  refine va_sld (A := fun q => x ≤ q) hx hb hX hb0 hbA hL.2.2.2 h2 dL_law__1581 ?_
  refine lv_aload_n hx hb dL_law__1582 rfl (lv_at hl 5 rfl) ?_
  refine lv_iload hx hb dL_law__1583 (lv_at hl 1 rfl) ?_
  refine lv_iconst (v := 3) hx hb dL_law__1585 (by decide) ?_
  refine lv_iadd hx hb dL_law__1586 ?_
  refine va_sld (A := fun q => x ≤ q) hx hb hX hb0 hbA hL.2.2.2 h3 dL_law__1587 ?_
  refine cl_M (av := [.int (xs (nI i + 1).toNatClampNeg), .int (xs (nI i + 2).toNatClampNeg), .int (xs (nI i + 3).toNatClampNeg)]) (rest := []) C hC hL (k_X11_pair l D a mo μ (xs (nI i + 1).toNatClampNeg) (xs (nI i + 2).toNatClampNeg) (xs (nI i + 3).toNatClampNeg) a3) cwm_195 (okR_of (F := R.frames) (L := R.locals) rfl rfl (by omega) (by omega)) rfl rfl hl.1 (Nat.le_of_ble_eq_true rfl) (by omega) (by omega) dL_law__1588 (fun H2 locs2 hL => ?_)
  refine lv_istore (lv' := [(6, .int (f_X11_pair μ (xs (nI i + 1).toNatClampNeg) (xs (nI i + 2).toNatClampNeg) (xs (nI i + 3).toNatClampNeg)).1), (5, .int h9.1), (4, .int (nI i)), (3, .ref oo), (2, .ref mo), (1, .ref x), (0, .ref b)]) hx hb dL_law__1591 hl (by decide) rfl (fun ls hl => ?_)
  refine lv_aload_n hx hb dL_law__1593 rfl (lv_at hl 4 rfl) ?_
  refine cl_R (av := []) (rest := []) C hL (k_X11_thrown l D a mo (f_X11_pair μ (xs (nI i + 1).toNatClampNeg) (xs (nI i + 2).toNatClampNeg) (xs (nI i + 3).toNatClampNeg)).2) cwm_128 (okR_of (F := R.frames) (L := R.locals) rfl rfl (by omega) (by omega)) rfl rfl hl.1 (Nat.le_of_ble_eq_true rfl) (by omega) (by omega) dL_law__1594 ?_
  refine lv_iload hx hb dL_law__1597 (lv_at hl 1 rfl) ?_
  refine lv_icmp_eq (tgt := 1604) hx hb dL_law__1599 (by decide) (fun _ => ?_) (fun c => absurd a4.1 c)
  refine lv_iload hx hb dL_law__1604 (lv_at hl 1 rfl) ?_
  refine lv_if_ne (tgt := 1628) hx hb dL_law__1606 (by decide) (fun _ => ?_) (fun c8 => ?_)
  · skip
    refine lv_goto (tgt := 2214) hx hb dL_law__1628 (by decide) ?_
    exact W.widen (k := cells + 10) (n := slots + 400) (by omega) (by omega) (hend _ _ _ _ _ ls hL a4.2.2 (lv_sub hl [2, 3, 4, 5, 6] rfl))
  · have a5 := a4.2.1 c8
    refine lv_aload_n hx hb dL_law__1609 rfl (lv_at hl 3 rfl) ?_
    refine lv_iconst (v := 0) hx hb dL_law__1610 (by decide) ?_
    refine cl_out C hL dL_law__1611 ?_
    refine lv_iload hx hb dL_law__1612 (lv_at hl 0 rfl) ?_
    refine lv_if_eq (tgt := 1621) hx hb dL_law__1614 (by decide) (fun c7 => ?_) (fun c7 => ?_)
    · rw [if_pos c7] at a5
      refine lv_lconst (v := 0) hx hb dL_law__1621 (by decide) ?_
      refine W.lcmp hx hb dL_law__1622 ?_
      rw [a5]
      refine lv_if_eq (tgt := 1628) hx hb dL_law__1623 (by decide) (fun _ => ?_) (fun c => absurd (cmp_self _) c)
      refine lv_goto (tgt := 2214) hx hb dL_law__1628 (by decide) ?_
      exact W.widen (k := cells + 10) (n := slots + 400) (by omega) (by omega) (hend _ _ _ _ _ ls hL a4.2.2 (lv_sub hl [2, 3, 4, 5, 6] rfl))
    · rw [if_neg c7] at a5
      refine lv_lconst (v := 1) hx hb dL_law__1617 (by decide) ?_
      refine lv_goto (tgt := 1622) hx hb dL_law__1618 (by decide) ?_
      refine W.lcmp hx hb dL_law__1622 ?_
      rw [a5]
      refine lv_if_eq (tgt := 1628) hx hb dL_law__1623 (by decide) (fun _ => ?_) (fun c => absurd (cmp_self _) c)
      refine lv_goto (tgt := 2214) hx hb dL_law__1628 (by decide) ?_
      exact W.widen (k := cells + 10) (n := slots + 400) (by omega) (by omega) (hend _ _ _ _ _ ls hL a4.2.2 (lv_sub hl [2, 3, 4, 5, 6] rfl))
def Br_cut (Rep : XS → Nat → MS → Prop) : Prop := ∀ (σ : XS) (x : Nat) (μ : MS) (p0 p1 p2 : Int32), Rep σ x μ → (∀ nq, xk σ nq = 0 → of_X10_cut σ x nq p0 p1 p2) ∧ (∀ nq k, FL_cut σ x p0 p1 p2 nq = .error k → k = 3 ∨ k = 1 ∨ k = 2) ∧ (of_X11_cut μ p0 p1 p2) ∧ (∀ nq f, xk σ nq = 0 → nq ≠ 0 → f_X11_thrown (f_X11_cut μ p0 p1 p2).2 = (hR cd_cut cvI (FL_cut σ x p0 p1 p2 nq) f σ).1 ∧ ((hR cd_cut cvI (FL_cut σ x p0 p1 p2 nq) f σ).1 = 0 → (hR cd_cut cvI (FL_cut σ x p0 p1 p2 nq) f σ).2.1 0 = ((f_X11_cut μ p0 p1 p2).1).toInt64) ∧ Rep (hR cd_cut cvI (FL_cut σ x p0 p1 p2 nq) f σ).2.2 x (f_X11_cut μ p0 p1 p2).2)
set_option maxRecDepth 100000 in
theorem lawc_cut (Rep : XS → Nat → MS → Prop) (br : Br_cut Rep) {p : Program} {l : Launch} (hfl : l.stackTraces = false) {e : Env} {R : Room} {s : State} {m : MethodId} {args : Array Value} {below : List Frame} {meth : Method} {c : Code} {H : Heap} {locs : List Loc} {cells slots : Nat} {Q : State → Prop} {D : va_G} {a : Nat → ClassId} {x e0 mo oo b N i : Nat} {xs : Nat → Int32} {σ : XS} {μ : MS} {f : Nat → Int64} {ls : Array Slot} (C : Cx D a p s m args c cL_law_ 8 RL) (hC : LC s D a x e0 mo oo) (hX : va_X b N xs s s.heap) (hb0 : b < s.heap.size) (hN : N ≤ 3072) (hi : i + 6 ≤ N) (hRf : 12 ≤ R.frames) (hRl : 400 ≤ R.locals) (hRc : cells + 10 ≤ R.cells) (hRs : slots + 400 ≤ R.slots) (hL : LI s D a x e0 mo oo σ μ f H locs) (hRep : Rep σ x μ) (hl : lv_has ls 8 [(4, .int (nI i)), (3, .ref oo), (2, .ref mo), (1, .ref x), (0, .ref b)]) (hend : ∀ σ1 μ1 f1 H1 locs1 ls1, LI s D a x e0 mo oo σ1 μ1 f1 H1 locs1 → Rep σ1 x μ1 → lv_has ls1 8 [(4, .int (nI i)), (3, .ref oo), (2, .ref mo), (1, .ref x), (0, .ref b)] → W p l e R s m args below meth c H1 locs1 (cells + 10) (slots + 400) Q (F0 m 2214 ls1 [])) : W p l e R s m args below meth c H locs cells slots Q (F0 m 1631 ls []) := by
  have hx := C.1.1
  have hb := C.1.2.1
  have hbA : ¬ x ≤ b := by rw [hC.1]; omega
  have h1 : vp_in (nI i + 1) N := by rw [show (1 : Int32) = nI 1 from rfl, nI_add]; exact nI_in (by omega) (by omega)
  have h2 : vp_in (nI i + 2) N := by rw [show (2 : Int32) = nI 2 from rfl, nI_add]; exact nI_in (by omega) (by omega)
  have h3 : vp_in (nI i + 3) N := by rw [show (3 : Int32) = nI 3 from rfl, nI_add]; exact nI_in (by omega) (by omega)
  obtain ⟨a1, a2, a3, a4⟩ := br σ x μ (xs (nI i + 1).toNatClampNeg) (xs (nI i + 2).toNatClampNeg) (xs (nI i + 3).toNatClampNeg) hRep
  refine lv_aload_n hx hb dL_law__1631 rfl (lv_at hl 3 rfl) ?_
  refine lv_aload_n hx hb dL_law__1632 rfl (lv_at hl 4 rfl) ?_
  refine lv_iload hx hb dL_law__1633 (lv_at hl 0 rfl) ?_
  refine lv_iconst (v := 1) hx hb dL_law__1635 (by decide) ?_
  refine lv_iadd hx hb dL_law__1636 ?_
  refine va_sld (A := fun q => x ≤ q) hx hb hX hb0 hbA hL.2.2.2 h1 dL_law__1637 ?_
  refine lv_aload_n hx hb dL_law__1638 rfl (lv_at hl 4 rfl) ?_
  refine lv_iload hx hb dL_law__1639 (lv_at hl 0 rfl) ?_
  refine lv_iconst (v := 2) hx hb dL_law__1641 (by decide) ?_
  refine lv_iadd hx hb dL_law__1642 ?_
  refine va_sld (A := fun q => x ≤ q) hx hb hX hb0 hbA hL.2.2.2 h2 dL_law__1643 ?_
  refine lv_aload_n hx hb dL_law__1644 rfl (lv_at hl 4 rfl) ?_
  refine lv_iload hx hb dL_law__1645 (lv_at hl 0 rfl) ?_
  refine lv_iconst (v := 3) hx hb dL_law__1647 (by decide) ?_
  refine lv_iadd hx hb dL_law__1648 ?_
  refine va_sld (A := fun q => x ≤ q) hx hb hX hb0 hbA hL.2.2.2 h3 dL_law__1649 ?_
  refine lv_aload_n hx hb dL_law__1650 rfl (lv_at hl 1 rfl) ?_
  refine cl_H (av := [.ref x, .int (xs (nI i + 1).toNatClampNeg), .int (xs (nI i + 2).toNatClampNeg), .int (xs (nI i + 3).toNatClampNeg), .ref oo]) (rest := []) C hC hL (k_L_cut l D a x e0 (AW x mo oo) hfl oo f σ (xs (nI i + 1).toNatClampNeg) (xs (nI i + 2).toNatClampNeg) (xs (nI i + 3).toNatClampNeg) a1 a2) cwh_cut ⟨by omega, by omega⟩ rfl rfl hl.1 (Nat.le_of_ble_eq_true rfl) (by omega) (by omega) dL_law__1651 (fun H1 locs1 Nq hq hq0 hL => ?_)
  have a4 := a4 Nq f hq hq0
  generalize hh9 : hR cd_cut cvI (FL_cut σ x (xs (nI i + 1).toNatClampNeg) (xs (nI i + 2).toNatClampNeg) (xs (nI i + 3).toNatClampNeg) Nq) f σ = h9 at hL a4 ⊢
  refine lv_istore (lv' := [(5, .int h9.1), (4, .int (nI i)), (3, .ref oo), (2, .ref mo), (1, .ref x), (0, .ref b)]) hx hb dL_law__1654 hl (by decide) rfl (fun ls hl => ?_)
  refine lv_aload_n hx hb dL_law__1656 rfl (lv_at hl 3 rfl) ?_
  refine lv_aload_n hx hb dL_law__1657 rfl (lv_at hl 5 rfl) ?_
  refine lv_iload hx hb dL_law__1658 (lv_at hl 1 rfl) ?_
  refine lv_iconst (v := 1) hx hb dL_law__1660 (by decide) ?_
  refine lv_iadd hx hb dL_law__1661 ?_
  refine va_sld (A := fun q => x ≤ q) hx hb hX hb0 hbA hL.2.2.2 h1 dL_law__1662 ?_
  refine lv_aload_n hx hb dL_law__1663 rfl (lv_at hl 5 rfl) ?_
  refine lv_iload hx hb dL_law__1664 (lv_at hl 1 rfl) ?_
  refine lv_iconst (v := 2) hx hb dL_law__1666 (by decide) ?_
  refine lv_iadd hx hb dL_law__1667 ?_
  refine va_sld (A := fun q => x ≤ q) hx hb hX hb0 hbA hL.2.2.2 h2 dL_law__1668 ?_
  refine lv_aload_n hx hb dL_law__1669 rfl (lv_at hl 5 rfl) ?_
  refine lv_iload hx hb dL_law__1670 (lv_at hl 1 rfl) ?_
  refine lv_iconst (v := 3) hx hb dL_law__1672 (by decide) ?_
  refine lv_iadd hx hb dL_law__1673 ?_
  refine va_sld (A := fun q => x ≤ q) hx hb hX hb0 hbA hL.2.2.2 h3 dL_law__1674 ?_
  refine cl_M (av := [.int (xs (nI i + 1).toNatClampNeg), .int (xs (nI i + 2).toNatClampNeg), .int (xs (nI i + 3).toNatClampNeg)]) (rest := []) C hC hL (k_X11_cut l D a mo μ (xs (nI i + 1).toNatClampNeg) (xs (nI i + 2).toNatClampNeg) (xs (nI i + 3).toNatClampNeg) a3) cwm_198 (okR_of (F := R.frames) (L := R.locals) rfl rfl (by omega) (by omega)) rfl rfl hl.1 (Nat.le_of_ble_eq_true rfl) (by omega) (by omega) dL_law__1675 (fun H2 locs2 hL => ?_)
  refine lv_istore (lv' := [(6, .int (f_X11_cut μ (xs (nI i + 1).toNatClampNeg) (xs (nI i + 2).toNatClampNeg) (xs (nI i + 3).toNatClampNeg)).1), (5, .int h9.1), (4, .int (nI i)), (3, .ref oo), (2, .ref mo), (1, .ref x), (0, .ref b)]) hx hb dL_law__1678 hl (by decide) rfl (fun ls hl => ?_)
  refine lv_aload_n hx hb dL_law__1680 rfl (lv_at hl 4 rfl) ?_
  refine cl_R (av := []) (rest := []) C hL (k_X11_thrown l D a mo (f_X11_cut μ (xs (nI i + 1).toNatClampNeg) (xs (nI i + 2).toNatClampNeg) (xs (nI i + 3).toNatClampNeg)).2) cwm_128 (okR_of (F := R.frames) (L := R.locals) rfl rfl (by omega) (by omega)) rfl rfl hl.1 (Nat.le_of_ble_eq_true rfl) (by omega) (by omega) dL_law__1681 ?_
  refine lv_iload hx hb dL_law__1684 (lv_at hl 1 rfl) ?_
  refine lv_icmp_eq (tgt := 1691) hx hb dL_law__1686 (by decide) (fun _ => ?_) (fun c => absurd a4.1 c)
  refine lv_iload hx hb dL_law__1691 (lv_at hl 1 rfl) ?_
  refine lv_if_ne (tgt := 1708) hx hb dL_law__1693 (by decide) (fun _ => ?_) (fun c8 => ?_)
  · skip
    refine lv_goto (tgt := 2214) hx hb dL_law__1708 (by decide) ?_
    exact W.widen (k := cells + 10) (n := slots + 400) (by omega) (by omega) (hend _ _ _ _ _ ls hL a4.2.2 (lv_sub hl [2, 3, 4, 5, 6] rfl))
  · have a5 := a4.2.1 c8
    refine lv_aload_n hx hb dL_law__1696 rfl (lv_at hl 3 rfl) ?_
    refine lv_iconst (v := 0) hx hb dL_law__1697 (by decide) ?_
    refine cl_out C hL dL_law__1698 ?_
    refine lv_iload hx hb dL_law__1699 (lv_at hl 0 rfl) ?_
    refine lv_i2l (v := ((f_X11_cut μ (xs (nI i + 1).toNatClampNeg) (xs (nI i + 2).toNatClampNeg) (xs (nI i + 3).toNatClampNeg)).1).toInt64) hx hb dL_law__1701 rfl ?_
    refine W.lcmp hx hb dL_law__1702 ?_
    rw [a5]
    refine lv_if_eq (tgt := 1708) hx hb dL_law__1703 (by decide) (fun _ => ?_) (fun c => absurd (cmp_self _) c)
    refine lv_goto (tgt := 2214) hx hb dL_law__1708 (by decide) ?_
    exact W.widen (k := cells + 10) (n := slots + 400) (by omega) (by omega) (hend _ _ _ _ _ ls hL a4.2.2 (lv_sub hl [2, 3, 4, 5, 6] rfl))
def Br_lend (Rep : XS → Nat → MS → Prop) : Prop := ∀ (σ : XS) (x : Nat) (μ : MS) (p0 p1 : Int32), Rep σ x μ → (of_X10_lend σ x p0 p1) ∧ (∀ nq k, FL_lend σ x p0 p1 nq = .error k → k = 3 ∨ k = 1 ∨ k = 2) ∧ (of_X11_lend μ p0 p1) ∧ (∀ nq f, xk σ nq = 0 → nq ≠ 0 → f_X11_thrown (f_X11_lend μ p0 p1) = (hR cd_lend cvV (FL_lend σ x p0 p1 nq) f σ).1 ∧ Rep (hR cd_lend cvV (FL_lend σ x p0 p1 nq) f σ).2.2 x (f_X11_lend μ p0 p1))
set_option maxRecDepth 100000 in
theorem lawc_lend (Rep : XS → Nat → MS → Prop) (br : Br_lend Rep) {p : Program} {l : Launch} (hfl : l.stackTraces = false) {e : Env} {R : Room} {s : State} {m : MethodId} {args : Array Value} {below : List Frame} {meth : Method} {c : Code} {H : Heap} {locs : List Loc} {cells slots : Nat} {Q : State → Prop} {D : va_G} {a : Nat → ClassId} {x e0 mo oo b N i : Nat} {xs : Nat → Int32} {σ : XS} {μ : MS} {f : Nat → Int64} {ls : Array Slot} (C : Cx D a p s m args c cL_law_ 8 RL) (hC : LC s D a x e0 mo oo) (hX : va_X b N xs s s.heap) (hb0 : b < s.heap.size) (hN : N ≤ 3072) (hi : i + 6 ≤ N) (hRf : 12 ≤ R.frames) (hRl : 400 ≤ R.locals) (hRc : cells + 10 ≤ R.cells) (hRs : slots + 400 ≤ R.slots) (hL : LI s D a x e0 mo oo σ μ f H locs) (hRep : Rep σ x μ) (hl : lv_has ls 8 [(4, .int (nI i)), (3, .ref oo), (2, .ref mo), (1, .ref x), (0, .ref b)]) (hend : ∀ σ1 μ1 f1 H1 locs1 ls1, LI s D a x e0 mo oo σ1 μ1 f1 H1 locs1 → Rep σ1 x μ1 → lv_has ls1 8 [(4, .int (nI i)), (3, .ref oo), (2, .ref mo), (1, .ref x), (0, .ref b)] → W p l e R s m args below meth c H1 locs1 (cells + 10) (slots + 400) Q (F0 m 2214 ls1 [])) : W p l e R s m args below meth c H locs cells slots Q (F0 m 1711 ls []) := by
  have hx := C.1.1
  have hb := C.1.2.1
  have hbA : ¬ x ≤ b := by rw [hC.1]; omega
  have h1 : vp_in (nI i + 1) N := by rw [show (1 : Int32) = nI 1 from rfl, nI_add]; exact nI_in (by omega) (by omega)
  have h2 : vp_in (nI i + 2) N := by rw [show (2 : Int32) = nI 2 from rfl, nI_add]; exact nI_in (by omega) (by omega)
  obtain ⟨a1, a2, a3, a4⟩ := br σ x μ (xs (nI i + 1).toNatClampNeg) (xs (nI i + 2).toNatClampNeg) hRep
  refine lv_aload_n hx hb dL_law__1711 rfl (lv_at hl 3 rfl) ?_
  refine lv_aload_n hx hb dL_law__1712 rfl (lv_at hl 4 rfl) ?_
  refine lv_iload hx hb dL_law__1713 (lv_at hl 0 rfl) ?_
  refine lv_iconst (v := 1) hx hb dL_law__1715 (by decide) ?_
  refine lv_iadd hx hb dL_law__1716 ?_
  refine va_sld (A := fun q => x ≤ q) hx hb hX hb0 hbA hL.2.2.2 h1 dL_law__1717 ?_
  refine lv_aload_n hx hb dL_law__1718 rfl (lv_at hl 4 rfl) ?_
  refine lv_iload hx hb dL_law__1719 (lv_at hl 0 rfl) ?_
  refine lv_iconst (v := 2) hx hb dL_law__1721 (by decide) ?_
  refine lv_iadd hx hb dL_law__1722 ?_
  refine va_sld (A := fun q => x ≤ q) hx hb hX hb0 hbA hL.2.2.2 h2 dL_law__1723 ?_
  refine cl_H (av := [.ref x, .int (xs (nI i + 1).toNatClampNeg), .int (xs (nI i + 2).toNatClampNeg)]) (rest := []) C hC hL (k_L_lend l D a x e0 (AW x mo oo) hfl oo f σ (xs (nI i + 1).toNatClampNeg) (xs (nI i + 2).toNatClampNeg) a1 a2) cwh_lend ⟨by omega, by omega⟩ rfl rfl hl.1 (Nat.le_of_ble_eq_true rfl) (by omega) (by omega) dL_law__1724 (fun H1 locs1 Nq hq hq0 hL => ?_)
  have a4 := a4 Nq f hq hq0
  generalize hh9 : hR cd_lend cvV (FL_lend σ x (xs (nI i + 1).toNatClampNeg) (xs (nI i + 2).toNatClampNeg) Nq) f σ = h9 at hL a4 ⊢
  refine lv_istore (lv' := [(5, .int h9.1), (4, .int (nI i)), (3, .ref oo), (2, .ref mo), (1, .ref x), (0, .ref b)]) hx hb dL_law__1727 hl (by decide) rfl (fun ls hl => ?_)
  refine lv_aload_n hx hb dL_law__1729 rfl (lv_at hl 3 rfl) ?_
  refine lv_aload_n hx hb dL_law__1730 rfl (lv_at hl 5 rfl) ?_
  refine lv_iload hx hb dL_law__1731 (lv_at hl 1 rfl) ?_
  refine lv_iconst (v := 1) hx hb dL_law__1733 (by decide) ?_
  refine lv_iadd hx hb dL_law__1734 ?_
  refine va_sld (A := fun q => x ≤ q) hx hb hX hb0 hbA hL.2.2.2 h1 dL_law__1735 ?_
  refine lv_aload_n hx hb dL_law__1736 rfl (lv_at hl 5 rfl) ?_
  refine lv_iload hx hb dL_law__1737 (lv_at hl 1 rfl) ?_
  refine lv_iconst (v := 2) hx hb dL_law__1739 (by decide) ?_
  refine lv_iadd hx hb dL_law__1740 ?_
  refine va_sld (A := fun q => x ≤ q) hx hb hX hb0 hbA hL.2.2.2 h2 dL_law__1741 ?_
  refine cl_M (av := [.int (xs (nI i + 1).toNatClampNeg), .int (xs (nI i + 2).toNatClampNeg)]) (rest := []) C hC hL (k_X11_lend l D a mo μ (xs (nI i + 1).toNatClampNeg) (xs (nI i + 2).toNatClampNeg) a3) cwm_202 (okR_of (F := R.frames) (L := R.locals) rfl rfl (by omega) (by omega)) rfl rfl hl.1 (Nat.le_of_ble_eq_true rfl) (by omega) (by omega) dL_law__1742 (fun H2 locs2 hL => ?_)
  refine lv_aload_n hx hb dL_law__1745 rfl (lv_at hl 3 rfl) ?_
  refine cl_R (av := []) (rest := []) C hL (k_X11_thrown l D a mo (f_X11_lend μ (xs (nI i + 1).toNatClampNeg) (xs (nI i + 2).toNatClampNeg))) cwm_128 (okR_of (F := R.frames) (L := R.locals) rfl rfl (by omega) (by omega)) rfl rfl hl.1 (Nat.le_of_ble_eq_true rfl) (by omega) (by omega) dL_law__1746 ?_
  refine lv_iload hx hb dL_law__1749 (lv_at hl 0 rfl) ?_
  refine lv_icmp_eq (tgt := 1756) hx hb dL_law__1751 (by decide) (fun _ => ?_) (fun c => absurd a4.1 c)
  refine lv_goto (tgt := 2214) hx hb dL_law__1756 (by decide) ?_
  exact W.widen (k := cells + 10) (n := slots + 400) (by omega) (by omega) (hend _ _ _ _ _ ls hL a4.2 (lv_sub hl [1, 2, 3, 4, 5] rfl))
def Br_steal (Rep : XS → Nat → MS → Prop) : Prop := ∀ (σ : XS) (x : Nat) (μ : MS) (p0 : Int32), Rep σ x μ → (of_X10_steal σ x p0) ∧ (∀ nq k, FL_steal σ x p0 nq = .error k → k = 3 ∨ k = 2) ∧ (of_X11_steal μ p0) ∧ (∀ nq f, xk σ nq = 0 → nq ≠ 0 → f_X11_thrown (f_X11_steal μ p0) = (hR cd_steal cvV (FL_steal σ x p0 nq) f σ).1 ∧ Rep (hR cd_steal cvV (FL_steal σ x p0 nq) f σ).2.2 x (f_X11_steal μ p0))
set_option maxRecDepth 100000 in
theorem lawc_steal (Rep : XS → Nat → MS → Prop) (br : Br_steal Rep) {p : Program} {l : Launch} (hfl : l.stackTraces = false) {e : Env} {R : Room} {s : State} {m : MethodId} {args : Array Value} {below : List Frame} {meth : Method} {c : Code} {H : Heap} {locs : List Loc} {cells slots : Nat} {Q : State → Prop} {D : va_G} {a : Nat → ClassId} {x e0 mo oo b N i : Nat} {xs : Nat → Int32} {σ : XS} {μ : MS} {f : Nat → Int64} {ls : Array Slot} (C : Cx D a p s m args c cL_law_ 8 RL) (hC : LC s D a x e0 mo oo) (hX : va_X b N xs s s.heap) (hb0 : b < s.heap.size) (hN : N ≤ 3072) (hi : i + 6 ≤ N) (hRf : 12 ≤ R.frames) (hRl : 400 ≤ R.locals) (hRc : cells + 10 ≤ R.cells) (hRs : slots + 400 ≤ R.slots) (hL : LI s D a x e0 mo oo σ μ f H locs) (hRep : Rep σ x μ) (hl : lv_has ls 8 [(4, .int (nI i)), (3, .ref oo), (2, .ref mo), (1, .ref x), (0, .ref b)]) (hend : ∀ σ1 μ1 f1 H1 locs1 ls1, LI s D a x e0 mo oo σ1 μ1 f1 H1 locs1 → Rep σ1 x μ1 → lv_has ls1 8 [(4, .int (nI i)), (3, .ref oo), (2, .ref mo), (1, .ref x), (0, .ref b)] → W p l e R s m args below meth c H1 locs1 (cells + 10) (slots + 400) Q (F0 m 2214 ls1 [])) : W p l e R s m args below meth c H locs cells slots Q (F0 m 1759 ls []) := by
  have hx := C.1.1
  have hb := C.1.2.1
  have hbA : ¬ x ≤ b := by rw [hC.1]; omega
  have h1 : vp_in (nI i + 1) N := by rw [show (1 : Int32) = nI 1 from rfl, nI_add]; exact nI_in (by omega) (by omega)
  obtain ⟨a1, a2, a3, a4⟩ := br σ x μ (xs (nI i + 1).toNatClampNeg) hRep
  refine lv_aload_n hx hb dL_law__1759 rfl (lv_at hl 3 rfl) ?_
  refine lv_aload_n hx hb dL_law__1760 rfl (lv_at hl 4 rfl) ?_
  refine lv_iload hx hb dL_law__1761 (lv_at hl 0 rfl) ?_
  refine lv_iconst (v := 1) hx hb dL_law__1763 (by decide) ?_
  refine lv_iadd hx hb dL_law__1764 ?_
  refine va_sld (A := fun q => x ≤ q) hx hb hX hb0 hbA hL.2.2.2 h1 dL_law__1765 ?_
  refine cl_H (av := [.ref x, .int (xs (nI i + 1).toNatClampNeg)]) (rest := []) C hC hL (k_L_steal l D a x e0 (AW x mo oo) hfl oo f σ (xs (nI i + 1).toNatClampNeg) a1 a2) cwh_steal ⟨by omega, by omega⟩ rfl rfl hl.1 (Nat.le_of_ble_eq_true rfl) (by omega) (by omega) dL_law__1766 (fun H1 locs1 Nq hq hq0 hL => ?_)
  have a4 := a4 Nq f hq hq0
  generalize hh9 : hR cd_steal cvV (FL_steal σ x (xs (nI i + 1).toNatClampNeg) Nq) f σ = h9 at hL a4 ⊢
  refine lv_istore (lv' := [(5, .int h9.1), (4, .int (nI i)), (3, .ref oo), (2, .ref mo), (1, .ref x), (0, .ref b)]) hx hb dL_law__1769 hl (by decide) rfl (fun ls hl => ?_)
  refine lv_aload_n hx hb dL_law__1771 rfl (lv_at hl 3 rfl) ?_
  refine lv_aload_n hx hb dL_law__1772 rfl (lv_at hl 5 rfl) ?_
  refine lv_iload hx hb dL_law__1773 (lv_at hl 1 rfl) ?_
  refine lv_iconst (v := 1) hx hb dL_law__1775 (by decide) ?_
  refine lv_iadd hx hb dL_law__1776 ?_
  refine va_sld (A := fun q => x ≤ q) hx hb hX hb0 hbA hL.2.2.2 h1 dL_law__1777 ?_
  refine cl_M (av := [.int (xs (nI i + 1).toNatClampNeg)]) (rest := []) C hC hL (k_X11_steal l D a mo μ (xs (nI i + 1).toNatClampNeg) a3) cwm_206 (okR_of (F := R.frames) (L := R.locals) rfl rfl (by omega) (by omega)) rfl rfl hl.1 (Nat.le_of_ble_eq_true rfl) (by omega) (by omega) dL_law__1778 (fun H2 locs2 hL => ?_)
  refine lv_aload_n hx hb dL_law__1781 rfl (lv_at hl 3 rfl) ?_
  refine cl_R (av := []) (rest := []) C hL (k_X11_thrown l D a mo (f_X11_steal μ (xs (nI i + 1).toNatClampNeg))) cwm_128 (okR_of (F := R.frames) (L := R.locals) rfl rfl (by omega) (by omega)) rfl rfl hl.1 (Nat.le_of_ble_eq_true rfl) (by omega) (by omega) dL_law__1782 ?_
  refine lv_iload hx hb dL_law__1785 (lv_at hl 0 rfl) ?_
  refine lv_icmp_eq (tgt := 1792) hx hb dL_law__1787 (by decide) (fun _ => ?_) (fun c => absurd a4.1 c)
  refine lv_goto (tgt := 2214) hx hb dL_law__1792 (by decide) ?_
  exact W.widen (k := cells + 10) (n := slots + 400) (by omega) (by omega) (hend _ _ _ _ _ ls hL a4.2 (lv_sub hl [1, 2, 3, 4, 5] rfl))
def Br_law (Rep : XS → Nat → MS → Prop) : Prop := ∀ (σ : XS) (x : Nat) (μ : MS) (p0 p1 : Int32), Rep σ x μ → (of_X10_law σ x p0 p1) ∧ (∀ nq k, FL_law σ x p0 p1 nq = .error k → k = 1) ∧ (of_X11_law μ p0 p1) ∧ (∀ nq f, xk σ nq = 0 → nq ≠ 0 → f_X11_thrown (f_X11_law μ p0 p1).2 = (hR cd_law cvI (FL_law σ x p0 p1 nq) f σ).1 ∧ ((hR cd_law cvI (FL_law σ x p0 p1 nq) f σ).1 = 0 → (hR cd_law cvI (FL_law σ x p0 p1 nq) f σ).2.1 0 = ((f_X11_law μ p0 p1).1).toInt64) ∧ Rep (hR cd_law cvI (FL_law σ x p0 p1 nq) f σ).2.2 x (f_X11_law μ p0 p1).2)
set_option maxRecDepth 100000 in
theorem lawc_law (Rep : XS → Nat → MS → Prop) (br : Br_law Rep) {p : Program} {l : Launch} (hfl : l.stackTraces = false) {e : Env} {R : Room} {s : State} {m : MethodId} {args : Array Value} {below : List Frame} {meth : Method} {c : Code} {H : Heap} {locs : List Loc} {cells slots : Nat} {Q : State → Prop} {D : va_G} {a : Nat → ClassId} {x e0 mo oo b N i : Nat} {xs : Nat → Int32} {σ : XS} {μ : MS} {f : Nat → Int64} {ls : Array Slot} (C : Cx D a p s m args c cL_law_ 8 RL) (hC : LC s D a x e0 mo oo) (hX : va_X b N xs s s.heap) (hb0 : b < s.heap.size) (hN : N ≤ 3072) (hi : i + 6 ≤ N) (hRf : 12 ≤ R.frames) (hRl : 400 ≤ R.locals) (hRc : cells + 10 ≤ R.cells) (hRs : slots + 400 ≤ R.slots) (hL : LI s D a x e0 mo oo σ μ f H locs) (hRep : Rep σ x μ) (hl : lv_has ls 8 [(4, .int (nI i)), (3, .ref oo), (2, .ref mo), (1, .ref x), (0, .ref b)]) (hend : ∀ σ1 μ1 f1 H1 locs1 ls1, LI s D a x e0 mo oo σ1 μ1 f1 H1 locs1 → Rep σ1 x μ1 → lv_has ls1 8 [(4, .int (nI i)), (3, .ref oo), (2, .ref mo), (1, .ref x), (0, .ref b)] → W p l e R s m args below meth c H1 locs1 (cells + 10) (slots + 400) Q (F0 m 2214 ls1 [])) : W p l e R s m args below meth c H locs cells slots Q (F0 m 1795 ls []) := by
  have hx := C.1.1
  have hb := C.1.2.1
  have hbA : ¬ x ≤ b := by rw [hC.1]; omega
  have h1 : vp_in (nI i + 1) N := by rw [show (1 : Int32) = nI 1 from rfl, nI_add]; exact nI_in (by omega) (by omega)
  have h2 : vp_in (nI i + 2) N := by rw [show (2 : Int32) = nI 2 from rfl, nI_add]; exact nI_in (by omega) (by omega)
  obtain ⟨a1, a2, a3, a4⟩ := br σ x μ (xs (nI i + 1).toNatClampNeg) (xs (nI i + 2).toNatClampNeg) hRep
  refine lv_aload_n hx hb dL_law__1795 rfl (lv_at hl 3 rfl) ?_
  refine lv_aload_n hx hb dL_law__1796 rfl (lv_at hl 4 rfl) ?_
  refine lv_iload hx hb dL_law__1797 (lv_at hl 0 rfl) ?_
  refine lv_iconst (v := 1) hx hb dL_law__1799 (by decide) ?_
  refine lv_iadd hx hb dL_law__1800 ?_
  refine va_sld (A := fun q => x ≤ q) hx hb hX hb0 hbA hL.2.2.2 h1 dL_law__1801 ?_
  refine lv_aload_n hx hb dL_law__1802 rfl (lv_at hl 4 rfl) ?_
  refine lv_iload hx hb dL_law__1803 (lv_at hl 0 rfl) ?_
  refine lv_iconst (v := 2) hx hb dL_law__1805 (by decide) ?_
  refine lv_iadd hx hb dL_law__1806 ?_
  refine va_sld (A := fun q => x ≤ q) hx hb hX hb0 hbA hL.2.2.2 h2 dL_law__1807 ?_
  refine lv_aload_n hx hb dL_law__1808 rfl (lv_at hl 1 rfl) ?_
  refine cl_H (av := [.ref x, .int (xs (nI i + 1).toNatClampNeg), .int (xs (nI i + 2).toNatClampNeg), .ref oo]) (rest := []) C hC hL (k_L_law l D a x e0 (AW x mo oo) hfl oo f σ (xs (nI i + 1).toNatClampNeg) (xs (nI i + 2).toNatClampNeg) a1 a2) cwh_law ⟨by omega, by omega⟩ rfl rfl hl.1 (Nat.le_of_ble_eq_true rfl) (by omega) (by omega) dL_law__1809 (fun H1 locs1 Nq hq hq0 hL => ?_)
  have a4 := a4 Nq f hq hq0
  generalize hh9 : hR cd_law cvI (FL_law σ x (xs (nI i + 1).toNatClampNeg) (xs (nI i + 2).toNatClampNeg) Nq) f σ = h9 at hL a4 ⊢
  refine lv_istore (lv' := [(5, .int h9.1), (4, .int (nI i)), (3, .ref oo), (2, .ref mo), (1, .ref x), (0, .ref b)]) hx hb dL_law__1812 hl (by decide) rfl (fun ls hl => ?_)
  refine lv_aload_n hx hb dL_law__1814 rfl (lv_at hl 3 rfl) ?_
  refine lv_aload_n hx hb dL_law__1815 rfl (lv_at hl 5 rfl) ?_
  refine lv_iload hx hb dL_law__1816 (lv_at hl 1 rfl) ?_
  refine lv_iconst (v := 1) hx hb dL_law__1818 (by decide) ?_
  refine lv_iadd hx hb dL_law__1819 ?_
  refine va_sld (A := fun q => x ≤ q) hx hb hX hb0 hbA hL.2.2.2 h1 dL_law__1820 ?_
  refine lv_aload_n hx hb dL_law__1821 rfl (lv_at hl 5 rfl) ?_
  refine lv_iload hx hb dL_law__1822 (lv_at hl 1 rfl) ?_
  refine lv_iconst (v := 2) hx hb dL_law__1824 (by decide) ?_
  refine lv_iadd hx hb dL_law__1825 ?_
  refine va_sld (A := fun q => x ≤ q) hx hb hX hb0 hbA hL.2.2.2 h2 dL_law__1826 ?_
  refine cl_M (av := [.int (xs (nI i + 1).toNatClampNeg), .int (xs (nI i + 2).toNatClampNeg)]) (rest := []) C hC hL (k_X11_law l D a mo μ (xs (nI i + 1).toNatClampNeg) (xs (nI i + 2).toNatClampNeg) a3) cwm_209 (okR_of (F := R.frames) (L := R.locals) rfl rfl (by omega) (by omega)) rfl rfl hl.1 (Nat.le_of_ble_eq_true rfl) (by omega) (by omega) dL_law__1827 (fun H2 locs2 hL => ?_)
  refine lv_istore (lv' := [(6, .int (f_X11_law μ (xs (nI i + 1).toNatClampNeg) (xs (nI i + 2).toNatClampNeg)).1), (5, .int h9.1), (4, .int (nI i)), (3, .ref oo), (2, .ref mo), (1, .ref x), (0, .ref b)]) hx hb dL_law__1830 hl (by decide) rfl (fun ls hl => ?_)
  refine lv_aload_n hx hb dL_law__1832 rfl (lv_at hl 4 rfl) ?_
  refine cl_R (av := []) (rest := []) C hL (k_X11_thrown l D a mo (f_X11_law μ (xs (nI i + 1).toNatClampNeg) (xs (nI i + 2).toNatClampNeg)).2) cwm_128 (okR_of (F := R.frames) (L := R.locals) rfl rfl (by omega) (by omega)) rfl rfl hl.1 (Nat.le_of_ble_eq_true rfl) (by omega) (by omega) dL_law__1833 ?_
  refine lv_iload hx hb dL_law__1836 (lv_at hl 1 rfl) ?_
  refine lv_icmp_eq (tgt := 1843) hx hb dL_law__1838 (by decide) (fun _ => ?_) (fun c => absurd a4.1 c)
  refine lv_iload hx hb dL_law__1843 (lv_at hl 1 rfl) ?_
  refine lv_if_ne (tgt := 1860) hx hb dL_law__1845 (by decide) (fun _ => ?_) (fun c8 => ?_)
  · skip
    refine lv_goto (tgt := 2214) hx hb dL_law__1860 (by decide) ?_
    exact W.widen (k := cells + 10) (n := slots + 400) (by omega) (by omega) (hend _ _ _ _ _ ls hL a4.2.2 (lv_sub hl [2, 3, 4, 5, 6] rfl))
  · have a5 := a4.2.1 c8
    refine lv_aload_n hx hb dL_law__1848 rfl (lv_at hl 3 rfl) ?_
    refine lv_iconst (v := 0) hx hb dL_law__1849 (by decide) ?_
    refine cl_out C hL dL_law__1850 ?_
    refine lv_iload hx hb dL_law__1851 (lv_at hl 0 rfl) ?_
    refine lv_i2l (v := ((f_X11_law μ (xs (nI i + 1).toNatClampNeg) (xs (nI i + 2).toNatClampNeg)).1).toInt64) hx hb dL_law__1853 rfl ?_
    refine W.lcmp hx hb dL_law__1854 ?_
    rw [a5]
    refine lv_if_eq (tgt := 1860) hx hb dL_law__1855 (by decide) (fun _ => ?_) (fun c => absurd (cmp_self _) c)
    refine lv_goto (tgt := 2214) hx hb dL_law__1860 (by decide) ?_
    exact W.widen (k := cells + 10) (n := slots + 400) (by omega) (by omega) (hend _ _ _ _ _ ls hL a4.2.2 (lv_sub hl [2, 3, 4, 5, 6] rfl))
def Br_give (Rep : XS → Nat → MS → Prop) : Prop := ∀ (σ : XS) (x : Nat) (μ : MS) (p0 p1 : Int32), Rep σ x μ → (of_X10_give σ x p0 p1) ∧ (∀ nq k, FL_give σ x p0 p1 nq = .error k → k = 3 ∨ k = 1 ∨ k = 2) ∧ (of_X11_give μ p0 p1) ∧ (∀ nq f, xk σ nq = 0 → nq ≠ 0 → f_X11_thrown (f_X11_give μ p0 p1).2 = (hR cd_give cvI (FL_give σ x p0 p1 nq) f σ).1 ∧ ((hR cd_give cvI (FL_give σ x p0 p1 nq) f σ).1 = 0 → (hR cd_give cvI (FL_give σ x p0 p1 nq) f σ).2.1 0 = ((f_X11_give μ p0 p1).1).toInt64) ∧ Rep (hR cd_give cvI (FL_give σ x p0 p1 nq) f σ).2.2 x (f_X11_give μ p0 p1).2)
set_option maxRecDepth 100000 in
theorem lawc_give (Rep : XS → Nat → MS → Prop) (br : Br_give Rep) {p : Program} {l : Launch} (hfl : l.stackTraces = false) {e : Env} {R : Room} {s : State} {m : MethodId} {args : Array Value} {below : List Frame} {meth : Method} {c : Code} {H : Heap} {locs : List Loc} {cells slots : Nat} {Q : State → Prop} {D : va_G} {a : Nat → ClassId} {x e0 mo oo b N i : Nat} {xs : Nat → Int32} {σ : XS} {μ : MS} {f : Nat → Int64} {ls : Array Slot} (C : Cx D a p s m args c cL_law_ 8 RL) (hC : LC s D a x e0 mo oo) (hX : va_X b N xs s s.heap) (hb0 : b < s.heap.size) (hN : N ≤ 3072) (hi : i + 6 ≤ N) (hRf : 12 ≤ R.frames) (hRl : 400 ≤ R.locals) (hRc : cells + 10 ≤ R.cells) (hRs : slots + 400 ≤ R.slots) (hL : LI s D a x e0 mo oo σ μ f H locs) (hRep : Rep σ x μ) (hl : lv_has ls 8 [(4, .int (nI i)), (3, .ref oo), (2, .ref mo), (1, .ref x), (0, .ref b)]) (hend : ∀ σ1 μ1 f1 H1 locs1 ls1, LI s D a x e0 mo oo σ1 μ1 f1 H1 locs1 → Rep σ1 x μ1 → lv_has ls1 8 [(4, .int (nI i)), (3, .ref oo), (2, .ref mo), (1, .ref x), (0, .ref b)] → W p l e R s m args below meth c H1 locs1 (cells + 10) (slots + 400) Q (F0 m 2214 ls1 [])) : W p l e R s m args below meth c H locs cells slots Q (F0 m 1863 ls []) := by
  have hx := C.1.1
  have hb := C.1.2.1
  have hbA : ¬ x ≤ b := by rw [hC.1]; omega
  have h1 : vp_in (nI i + 1) N := by rw [show (1 : Int32) = nI 1 from rfl, nI_add]; exact nI_in (by omega) (by omega)
  have h2 : vp_in (nI i + 2) N := by rw [show (2 : Int32) = nI 2 from rfl, nI_add]; exact nI_in (by omega) (by omega)
  obtain ⟨a1, a2, a3, a4⟩ := br σ x μ (xs (nI i + 1).toNatClampNeg) (xs (nI i + 2).toNatClampNeg) hRep
  refine lv_aload_n hx hb dL_law__1863 rfl (lv_at hl 3 rfl) ?_
  refine lv_aload_n hx hb dL_law__1864 rfl (lv_at hl 4 rfl) ?_
  refine lv_iload hx hb dL_law__1865 (lv_at hl 0 rfl) ?_
  refine lv_iconst (v := 1) hx hb dL_law__1867 (by decide) ?_
  refine lv_iadd hx hb dL_law__1868 ?_
  refine va_sld (A := fun q => x ≤ q) hx hb hX hb0 hbA hL.2.2.2 h1 dL_law__1869 ?_
  refine lv_aload_n hx hb dL_law__1870 rfl (lv_at hl 4 rfl) ?_
  refine lv_iload hx hb dL_law__1871 (lv_at hl 0 rfl) ?_
  refine lv_iconst (v := 2) hx hb dL_law__1873 (by decide) ?_
  refine lv_iadd hx hb dL_law__1874 ?_
  refine va_sld (A := fun q => x ≤ q) hx hb hX hb0 hbA hL.2.2.2 h2 dL_law__1875 ?_
  refine lv_aload_n hx hb dL_law__1876 rfl (lv_at hl 1 rfl) ?_
  refine cl_H (av := [.ref x, .int (xs (nI i + 1).toNatClampNeg), .int (xs (nI i + 2).toNatClampNeg), .ref oo]) (rest := []) C hC hL (k_L_give l D a x e0 (AW x mo oo) hfl oo f σ (xs (nI i + 1).toNatClampNeg) (xs (nI i + 2).toNatClampNeg) a1 a2) cwh_give ⟨by omega, by omega⟩ rfl rfl hl.1 (Nat.le_of_ble_eq_true rfl) (by omega) (by omega) dL_law__1877 (fun H1 locs1 Nq hq hq0 hL => ?_)
  have a4 := a4 Nq f hq hq0
  generalize hh9 : hR cd_give cvI (FL_give σ x (xs (nI i + 1).toNatClampNeg) (xs (nI i + 2).toNatClampNeg) Nq) f σ = h9 at hL a4 ⊢
  refine lv_istore (lv' := [(5, .int h9.1), (4, .int (nI i)), (3, .ref oo), (2, .ref mo), (1, .ref x), (0, .ref b)]) hx hb dL_law__1880 hl (by decide) rfl (fun ls hl => ?_)
  refine lv_aload_n hx hb dL_law__1882 rfl (lv_at hl 3 rfl) ?_
  refine lv_aload_n hx hb dL_law__1883 rfl (lv_at hl 5 rfl) ?_
  refine lv_iload hx hb dL_law__1884 (lv_at hl 1 rfl) ?_
  refine lv_iconst (v := 1) hx hb dL_law__1886 (by decide) ?_
  refine lv_iadd hx hb dL_law__1887 ?_
  refine va_sld (A := fun q => x ≤ q) hx hb hX hb0 hbA hL.2.2.2 h1 dL_law__1888 ?_
  refine lv_aload_n hx hb dL_law__1889 rfl (lv_at hl 5 rfl) ?_
  refine lv_iload hx hb dL_law__1890 (lv_at hl 1 rfl) ?_
  refine lv_iconst (v := 2) hx hb dL_law__1892 (by decide) ?_
  refine lv_iadd hx hb dL_law__1893 ?_
  refine va_sld (A := fun q => x ≤ q) hx hb hX hb0 hbA hL.2.2.2 h2 dL_law__1894 ?_
  refine cl_M (av := [.int (xs (nI i + 1).toNatClampNeg), .int (xs (nI i + 2).toNatClampNeg)]) (rest := []) C hC hL (k_X11_give l D a mo μ (xs (nI i + 1).toNatClampNeg) (xs (nI i + 2).toNatClampNeg) a3) cwm_212 (okR_of (F := R.frames) (L := R.locals) rfl rfl (by omega) (by omega)) rfl rfl hl.1 (Nat.le_of_ble_eq_true rfl) (by omega) (by omega) dL_law__1895 (fun H2 locs2 hL => ?_)
  refine lv_istore (lv' := [(6, .int (f_X11_give μ (xs (nI i + 1).toNatClampNeg) (xs (nI i + 2).toNatClampNeg)).1), (5, .int h9.1), (4, .int (nI i)), (3, .ref oo), (2, .ref mo), (1, .ref x), (0, .ref b)]) hx hb dL_law__1898 hl (by decide) rfl (fun ls hl => ?_)
  refine lv_aload_n hx hb dL_law__1900 rfl (lv_at hl 4 rfl) ?_
  refine cl_R (av := []) (rest := []) C hL (k_X11_thrown l D a mo (f_X11_give μ (xs (nI i + 1).toNatClampNeg) (xs (nI i + 2).toNatClampNeg)).2) cwm_128 (okR_of (F := R.frames) (L := R.locals) rfl rfl (by omega) (by omega)) rfl rfl hl.1 (Nat.le_of_ble_eq_true rfl) (by omega) (by omega) dL_law__1901 ?_
  refine lv_iload hx hb dL_law__1904 (lv_at hl 1 rfl) ?_
  refine lv_icmp_eq (tgt := 1911) hx hb dL_law__1906 (by decide) (fun _ => ?_) (fun c => absurd a4.1 c)
  refine lv_iload hx hb dL_law__1911 (lv_at hl 1 rfl) ?_
  refine lv_if_ne (tgt := 1928) hx hb dL_law__1913 (by decide) (fun _ => ?_) (fun c8 => ?_)
  · skip
    refine lv_goto (tgt := 2214) hx hb dL_law__1928 (by decide) ?_
    exact W.widen (k := cells + 10) (n := slots + 400) (by omega) (by omega) (hend _ _ _ _ _ ls hL a4.2.2 (lv_sub hl [2, 3, 4, 5, 6] rfl))
  · have a5 := a4.2.1 c8
    refine lv_aload_n hx hb dL_law__1916 rfl (lv_at hl 3 rfl) ?_
    refine lv_iconst (v := 0) hx hb dL_law__1917 (by decide) ?_
    refine cl_out C hL dL_law__1918 ?_
    refine lv_iload hx hb dL_law__1919 (lv_at hl 0 rfl) ?_
    refine lv_i2l (v := ((f_X11_give μ (xs (nI i + 1).toNatClampNeg) (xs (nI i + 2).toNatClampNeg)).1).toInt64) hx hb dL_law__1921 rfl ?_
    refine W.lcmp hx hb dL_law__1922 ?_
    rw [a5]
    refine lv_if_eq (tgt := 1928) hx hb dL_law__1923 (by decide) (fun _ => ?_) (fun c => absurd (cmp_self _) c)
    refine lv_goto (tgt := 2214) hx hb dL_law__1928 (by decide) ?_
    exact W.widen (k := cells + 10) (n := slots + 400) (by omega) (by omega) (hend _ _ _ _ _ ls hL a4.2.2 (lv_sub hl [2, 3, 4, 5, 6] rfl))
def Br_name (Rep : XS → Nat → MS → Prop) : Prop := ∀ (σ : XS) (x : Nat) (μ : MS) (p0 p1 : Int32), Rep σ x μ → (of_X10_name σ x p0 p1) ∧ (∀ nq k, FL_name σ x p0 p1 nq = .error k → k = 3 ∨ k = 1 ∨ k = 2) ∧ (of_X11_name μ p0 p1) ∧ (∀ nq f, xk σ nq = 0 → nq ≠ 0 → f_X11_thrown (f_X11_name μ p0 p1).2 = (hR cd_name cvI (FL_name σ x p0 p1 nq) f σ).1 ∧ ((hR cd_name cvI (FL_name σ x p0 p1 nq) f σ).1 = 0 → (hR cd_name cvI (FL_name σ x p0 p1 nq) f σ).2.1 0 = ((f_X11_name μ p0 p1).1).toInt64) ∧ Rep (hR cd_name cvI (FL_name σ x p0 p1 nq) f σ).2.2 x (f_X11_name μ p0 p1).2)
set_option maxRecDepth 100000 in
theorem lawc_name (Rep : XS → Nat → MS → Prop) (br : Br_name Rep) {p : Program} {l : Launch} (hfl : l.stackTraces = false) {e : Env} {R : Room} {s : State} {m : MethodId} {args : Array Value} {below : List Frame} {meth : Method} {c : Code} {H : Heap} {locs : List Loc} {cells slots : Nat} {Q : State → Prop} {D : va_G} {a : Nat → ClassId} {x e0 mo oo b N i : Nat} {xs : Nat → Int32} {σ : XS} {μ : MS} {f : Nat → Int64} {ls : Array Slot} (C : Cx D a p s m args c cL_law_ 8 RL) (hC : LC s D a x e0 mo oo) (hX : va_X b N xs s s.heap) (hb0 : b < s.heap.size) (hN : N ≤ 3072) (hi : i + 6 ≤ N) (hRf : 12 ≤ R.frames) (hRl : 400 ≤ R.locals) (hRc : cells + 10 ≤ R.cells) (hRs : slots + 400 ≤ R.slots) (hL : LI s D a x e0 mo oo σ μ f H locs) (hRep : Rep σ x μ) (hl : lv_has ls 8 [(4, .int (nI i)), (3, .ref oo), (2, .ref mo), (1, .ref x), (0, .ref b)]) (hend : ∀ σ1 μ1 f1 H1 locs1 ls1, LI s D a x e0 mo oo σ1 μ1 f1 H1 locs1 → Rep σ1 x μ1 → lv_has ls1 8 [(4, .int (nI i)), (3, .ref oo), (2, .ref mo), (1, .ref x), (0, .ref b)] → W p l e R s m args below meth c H1 locs1 (cells + 10) (slots + 400) Q (F0 m 2214 ls1 [])) : W p l e R s m args below meth c H locs cells slots Q (F0 m 1931 ls []) := by
  have hx := C.1.1
  have hb := C.1.2.1
  have hbA : ¬ x ≤ b := by rw [hC.1]; omega
  have h1 : vp_in (nI i + 1) N := by rw [show (1 : Int32) = nI 1 from rfl, nI_add]; exact nI_in (by omega) (by omega)
  have h2 : vp_in (nI i + 2) N := by rw [show (2 : Int32) = nI 2 from rfl, nI_add]; exact nI_in (by omega) (by omega)
  obtain ⟨a1, a2, a3, a4⟩ := br σ x μ (xs (nI i + 1).toNatClampNeg) (xs (nI i + 2).toNatClampNeg) hRep
  refine lv_aload_n hx hb dL_law__1931 rfl (lv_at hl 3 rfl) ?_
  refine lv_aload_n hx hb dL_law__1932 rfl (lv_at hl 4 rfl) ?_
  refine lv_iload hx hb dL_law__1933 (lv_at hl 0 rfl) ?_
  refine lv_iconst (v := 1) hx hb dL_law__1935 (by decide) ?_
  refine lv_iadd hx hb dL_law__1936 ?_
  refine va_sld (A := fun q => x ≤ q) hx hb hX hb0 hbA hL.2.2.2 h1 dL_law__1937 ?_
  refine lv_aload_n hx hb dL_law__1938 rfl (lv_at hl 4 rfl) ?_
  refine lv_iload hx hb dL_law__1939 (lv_at hl 0 rfl) ?_
  refine lv_iconst (v := 2) hx hb dL_law__1941 (by decide) ?_
  refine lv_iadd hx hb dL_law__1942 ?_
  refine va_sld (A := fun q => x ≤ q) hx hb hX hb0 hbA hL.2.2.2 h2 dL_law__1943 ?_
  refine lv_aload_n hx hb dL_law__1944 rfl (lv_at hl 1 rfl) ?_
  refine cl_H (av := [.ref x, .int (xs (nI i + 1).toNatClampNeg), .int (xs (nI i + 2).toNatClampNeg), .ref oo]) (rest := []) C hC hL (k_L_name l D a x e0 (AW x mo oo) hfl oo f σ (xs (nI i + 1).toNatClampNeg) (xs (nI i + 2).toNatClampNeg) a1 a2) cwh_name ⟨by omega, by omega⟩ rfl rfl hl.1 (Nat.le_of_ble_eq_true rfl) (by omega) (by omega) dL_law__1945 (fun H1 locs1 Nq hq hq0 hL => ?_)
  have a4 := a4 Nq f hq hq0
  generalize hh9 : hR cd_name cvI (FL_name σ x (xs (nI i + 1).toNatClampNeg) (xs (nI i + 2).toNatClampNeg) Nq) f σ = h9 at hL a4 ⊢
  refine lv_istore (lv' := [(5, .int h9.1), (4, .int (nI i)), (3, .ref oo), (2, .ref mo), (1, .ref x), (0, .ref b)]) hx hb dL_law__1948 hl (by decide) rfl (fun ls hl => ?_)
  refine lv_aload_n hx hb dL_law__1950 rfl (lv_at hl 3 rfl) ?_
  refine lv_aload_n hx hb dL_law__1951 rfl (lv_at hl 5 rfl) ?_
  refine lv_iload hx hb dL_law__1952 (lv_at hl 1 rfl) ?_
  refine lv_iconst (v := 1) hx hb dL_law__1954 (by decide) ?_
  refine lv_iadd hx hb dL_law__1955 ?_
  refine va_sld (A := fun q => x ≤ q) hx hb hX hb0 hbA hL.2.2.2 h1 dL_law__1956 ?_
  refine lv_aload_n hx hb dL_law__1957 rfl (lv_at hl 5 rfl) ?_
  refine lv_iload hx hb dL_law__1958 (lv_at hl 1 rfl) ?_
  refine lv_iconst (v := 2) hx hb dL_law__1960 (by decide) ?_
  refine lv_iadd hx hb dL_law__1961 ?_
  refine va_sld (A := fun q => x ≤ q) hx hb hX hb0 hbA hL.2.2.2 h2 dL_law__1962 ?_
  refine cl_M (av := [.int (xs (nI i + 1).toNatClampNeg), .int (xs (nI i + 2).toNatClampNeg)]) (rest := []) C hC hL (k_X11_name l D a mo μ (xs (nI i + 1).toNatClampNeg) (xs (nI i + 2).toNatClampNeg) a3) cwm_215 (okR_of (F := R.frames) (L := R.locals) rfl rfl (by omega) (by omega)) rfl rfl hl.1 (Nat.le_of_ble_eq_true rfl) (by omega) (by omega) dL_law__1963 (fun H2 locs2 hL => ?_)
  refine lv_istore (lv' := [(6, .int (f_X11_name μ (xs (nI i + 1).toNatClampNeg) (xs (nI i + 2).toNatClampNeg)).1), (5, .int h9.1), (4, .int (nI i)), (3, .ref oo), (2, .ref mo), (1, .ref x), (0, .ref b)]) hx hb dL_law__1966 hl (by decide) rfl (fun ls hl => ?_)
  refine lv_aload_n hx hb dL_law__1968 rfl (lv_at hl 4 rfl) ?_
  refine cl_R (av := []) (rest := []) C hL (k_X11_thrown l D a mo (f_X11_name μ (xs (nI i + 1).toNatClampNeg) (xs (nI i + 2).toNatClampNeg)).2) cwm_128 (okR_of (F := R.frames) (L := R.locals) rfl rfl (by omega) (by omega)) rfl rfl hl.1 (Nat.le_of_ble_eq_true rfl) (by omega) (by omega) dL_law__1969 ?_
  refine lv_iload hx hb dL_law__1972 (lv_at hl 1 rfl) ?_
  refine lv_icmp_eq (tgt := 1979) hx hb dL_law__1974 (by decide) (fun _ => ?_) (fun c => absurd a4.1 c)
  refine lv_iload hx hb dL_law__1979 (lv_at hl 1 rfl) ?_
  refine lv_if_ne (tgt := 1996) hx hb dL_law__1981 (by decide) (fun _ => ?_) (fun c8 => ?_)
  · skip
    refine lv_goto (tgt := 2214) hx hb dL_law__1996 (by decide) ?_
    exact W.widen (k := cells + 10) (n := slots + 400) (by omega) (by omega) (hend _ _ _ _ _ ls hL a4.2.2 (lv_sub hl [2, 3, 4, 5, 6] rfl))
  · have a5 := a4.2.1 c8
    refine lv_aload_n hx hb dL_law__1984 rfl (lv_at hl 3 rfl) ?_
    refine lv_iconst (v := 0) hx hb dL_law__1985 (by decide) ?_
    refine cl_out C hL dL_law__1986 ?_
    refine lv_iload hx hb dL_law__1987 (lv_at hl 0 rfl) ?_
    refine lv_i2l (v := ((f_X11_name μ (xs (nI i + 1).toNatClampNeg) (xs (nI i + 2).toNatClampNeg)).1).toInt64) hx hb dL_law__1989 rfl ?_
    refine W.lcmp hx hb dL_law__1990 ?_
    rw [a5]
    refine lv_if_eq (tgt := 1996) hx hb dL_law__1991 (by decide) (fun _ => ?_) (fun c => absurd (cmp_self _) c)
    refine lv_goto (tgt := 2214) hx hb dL_law__1996 (by decide) ?_
    exact W.widen (k := cells + 10) (n := slots + 400) (by omega) (by omega) (hend _ _ _ _ _ ls hL a4.2.2 (lv_sub hl [2, 3, 4, 5, 6] rfl))
def Br_doubt (Rep : XS → Nat → MS → Prop) : Prop := ∀ (σ : XS) (x : Nat) (μ : MS) (p0 p1 : Int32), zb p1 → Rep σ x μ → (of_X10_doubt σ x p0 p1) ∧ (∀ nq k, FL_doubt σ x p0 p1 nq = .error k → k = 3 ∨ k = 2) ∧ (of_X11_doubt μ p0 p1) ∧ (∀ nq f, xk σ nq = 0 → nq ≠ 0 → f_X11_thrown (f_X11_doubt μ p0 p1).2 = (hR cd_doubt cvZ (FL_doubt σ x p0 p1 nq) f σ).1 ∧ ((hR cd_doubt cvZ (FL_doubt σ x p0 p1 nq) f σ).1 = 0 → (hR cd_doubt cvZ (FL_doubt σ x p0 p1 nq) f σ).2.1 0 = (if (f_X11_doubt μ p0 p1).1 = 0 then 0 else 1)) ∧ Rep (hR cd_doubt cvZ (FL_doubt σ x p0 p1 nq) f σ).2.2 x (f_X11_doubt μ p0 p1).2)
set_option maxRecDepth 100000 in
theorem lawc_doubt (Rep : XS → Nat → MS → Prop) (br : Br_doubt Rep) {p : Program} {l : Launch} (hfl : l.stackTraces = false) {e : Env} {R : Room} {s : State} {m : MethodId} {args : Array Value} {below : List Frame} {meth : Method} {c : Code} {H : Heap} {locs : List Loc} {cells slots : Nat} {Q : State → Prop} {D : va_G} {a : Nat → ClassId} {x e0 mo oo b N i : Nat} {xs : Nat → Int32} {σ : XS} {μ : MS} {f : Nat → Int64} {ls : Array Slot} (C : Cx D a p s m args c cL_law_ 8 RL) (hC : LC s D a x e0 mo oo) (hX : va_X b N xs s s.heap) (hb0 : b < s.heap.size) (hN : N ≤ 3072) (hi : i + 6 ≤ N) (hRf : 12 ≤ R.frames) (hRl : 400 ≤ R.locals) (hRc : cells + 10 ≤ R.cells) (hRs : slots + 400 ≤ R.slots) (hL : LI s D a x e0 mo oo σ μ f H locs) (hRep : Rep σ x μ) (hl : lv_has ls 8 [(4, .int (nI i)), (3, .ref oo), (2, .ref mo), (1, .ref x), (0, .ref b)]) (hend : ∀ σ1 μ1 f1 H1 locs1 ls1, LI s D a x e0 mo oo σ1 μ1 f1 H1 locs1 → Rep σ1 x μ1 → lv_has ls1 8 [(4, .int (nI i)), (3, .ref oo), (2, .ref mo), (1, .ref x), (0, .ref b)] → W p l e R s m args below meth c H1 locs1 (cells + 10) (slots + 400) Q (F0 m 2214 ls1 [])) : W p l e R s m args below meth c H locs cells slots Q (F0 m 1999 ls []) := by
  have hx := C.1.1
  have hb := C.1.2.1
  have hbA : ¬ x ≤ b := by rw [hC.1]; omega
  have h1 : vp_in (nI i + 1) N := by rw [show (1 : Int32) = nI 1 from rfl, nI_add]; exact nI_in (by omega) (by omega)
  have h2 : vp_in (nI i + 2) N := by rw [show (2 : Int32) = nI 2 from rfl, nI_add]; exact nI_in (by omega) (by omega)
  by_cases c9 : (xs (nI i + 2).toNatClampNeg) = 0
  · skip
    obtain ⟨a1, a2, a3, a4⟩ := br σ x μ (xs (nI i + 1).toNatClampNeg) 0 (by unfold zb; decide) hRep
    refine lv_aload_n hx hb dL_law__1999 rfl (lv_at hl 3 rfl) ?_
    refine lv_aload_n hx hb dL_law__2000 rfl (lv_at hl 4 rfl) ?_
    refine lv_iload hx hb dL_law__2001 (lv_at hl 0 rfl) ?_
    refine lv_iconst (v := 1) hx hb dL_law__2003 (by decide) ?_
    refine lv_iadd hx hb dL_law__2004 ?_
    refine va_sld (A := fun q => x ≤ q) hx hb hX hb0 hbA hL.2.2.2 h1 dL_law__2005 ?_
    refine lv_aload_n hx hb dL_law__2006 rfl (lv_at hl 4 rfl) ?_
    refine lv_iload hx hb dL_law__2007 (lv_at hl 0 rfl) ?_
    refine lv_iconst (v := 2) hx hb dL_law__2009 (by decide) ?_
    refine lv_iadd hx hb dL_law__2010 ?_
    refine va_sld (A := fun q => x ≤ q) hx hb hX hb0 hbA hL.2.2.2 h2 dL_law__2011 ?_
    refine lv_if_eq (tgt := 2019) hx hb dL_law__2012 (by decide) (fun _ => ?_) (fun c => absurd c9 c)
    refine lv_iconst (v := 0) hx hb dL_law__2019 (by decide) ?_
    refine lv_aload_n hx hb dL_law__2020 rfl (lv_at hl 1 rfl) ?_
    refine cl_H (av := [.ref x, .int (xs (nI i + 1).toNatClampNeg), .int 0, .ref oo]) (rest := []) C hC hL (k_L_doubt l D a x e0 (AW x mo oo) hfl oo f σ (xs (nI i + 1).toNatClampNeg) 0 a1 a2) cwh_doubt ⟨by omega, by omega⟩ rfl rfl hl.1 (Nat.le_of_ble_eq_true rfl) (by omega) (by omega) dL_law__2021 (fun H1 locs1 Nq hq hq0 hL => ?_)
    have a4 := a4 Nq f hq hq0
    generalize hh9 : hR cd_doubt cvZ (FL_doubt σ x (xs (nI i + 1).toNatClampNeg) 0 Nq) f σ = h9 at hL a4 ⊢
    refine lv_istore (lv' := [(5, .int h9.1), (4, .int (nI i)), (3, .ref oo), (2, .ref mo), (1, .ref x), (0, .ref b)]) hx hb dL_law__2024 hl (by decide) rfl (fun ls hl => ?_)
    refine lv_aload_n hx hb dL_law__2026 rfl (lv_at hl 3 rfl) ?_
    refine lv_aload_n hx hb dL_law__2027 rfl (lv_at hl 5 rfl) ?_
    refine lv_iload hx hb dL_law__2028 (lv_at hl 1 rfl) ?_
    refine lv_iconst (v := 1) hx hb dL_law__2030 (by decide) ?_
    refine lv_iadd hx hb dL_law__2031 ?_
    refine va_sld (A := fun q => x ≤ q) hx hb hX hb0 hbA hL.2.2.2 h1 dL_law__2032 ?_
    refine lv_aload_n hx hb dL_law__2033 rfl (lv_at hl 5 rfl) ?_
    refine lv_iload hx hb dL_law__2034 (lv_at hl 1 rfl) ?_
    refine lv_iconst (v := 2) hx hb dL_law__2036 (by decide) ?_
    refine lv_iadd hx hb dL_law__2037 ?_
    refine va_sld (A := fun q => x ≤ q) hx hb hX hb0 hbA hL.2.2.2 h2 dL_law__2038 ?_
    refine lv_if_eq (tgt := 2046) hx hb dL_law__2039 (by decide) (fun _ => ?_) (fun c => absurd c9 c)
    refine lv_iconst (v := 0) hx hb dL_law__2046 (by decide) ?_
    refine cl_M (av := [.int (xs (nI i + 1).toNatClampNeg), .int 0]) (rest := []) C hC hL (k_X11_doubt l D a mo μ (xs (nI i + 1).toNatClampNeg) 0 a3) cwm_219 (okR_of (F := R.frames) (L := R.locals) rfl rfl (by omega) (by omega)) rfl rfl hl.1 (Nat.le_of_ble_eq_true rfl) (by omega) (by omega) dL_law__2047 (fun H2 locs2 hL => ?_)
    refine lv_istore (lv' := [(6, .int (f_X11_doubt μ (xs (nI i + 1).toNatClampNeg) 0).1), (5, .int h9.1), (4, .int (nI i)), (3, .ref oo), (2, .ref mo), (1, .ref x), (0, .ref b)]) hx hb dL_law__2050 hl (by decide) rfl (fun ls hl => ?_)
    refine lv_aload_n hx hb dL_law__2052 rfl (lv_at hl 4 rfl) ?_
    refine cl_R (av := []) (rest := []) C hL (k_X11_thrown l D a mo (f_X11_doubt μ (xs (nI i + 1).toNatClampNeg) 0).2) cwm_128 (okR_of (F := R.frames) (L := R.locals) rfl rfl (by omega) (by omega)) rfl rfl hl.1 (Nat.le_of_ble_eq_true rfl) (by omega) (by omega) dL_law__2053 ?_
    refine lv_iload hx hb dL_law__2056 (lv_at hl 1 rfl) ?_
    refine lv_icmp_eq (tgt := 2063) hx hb dL_law__2058 (by decide) (fun _ => ?_) (fun c => absurd a4.1 c)
    refine lv_iload hx hb dL_law__2063 (lv_at hl 1 rfl) ?_
    refine lv_if_ne (tgt := 2087) hx hb dL_law__2065 (by decide) (fun _ => ?_) (fun c8 => ?_)
    · skip
      refine lv_goto (tgt := 2214) hx hb dL_law__2087 (by decide) ?_
      exact W.widen (k := cells + 10) (n := slots + 400) (by omega) (by omega) (hend _ _ _ _ _ ls hL a4.2.2 (lv_sub hl [2, 3, 4, 5, 6] rfl))
    · have a5 := a4.2.1 c8
      refine lv_aload_n hx hb dL_law__2068 rfl (lv_at hl 3 rfl) ?_
      refine lv_iconst (v := 0) hx hb dL_law__2069 (by decide) ?_
      refine cl_out C hL dL_law__2070 ?_
      refine lv_iload hx hb dL_law__2071 (lv_at hl 0 rfl) ?_
      refine lv_if_eq (tgt := 2080) hx hb dL_law__2073 (by decide) (fun c7 => ?_) (fun c7 => ?_)
      · rw [if_pos c7] at a5
        refine lv_lconst (v := 0) hx hb dL_law__2080 (by decide) ?_
        refine W.lcmp hx hb dL_law__2081 ?_
        rw [a5]
        refine lv_if_eq (tgt := 2087) hx hb dL_law__2082 (by decide) (fun _ => ?_) (fun c => absurd (cmp_self _) c)
        refine lv_goto (tgt := 2214) hx hb dL_law__2087 (by decide) ?_
        exact W.widen (k := cells + 10) (n := slots + 400) (by omega) (by omega) (hend _ _ _ _ _ ls hL a4.2.2 (lv_sub hl [2, 3, 4, 5, 6] rfl))
      · rw [if_neg c7] at a5
        refine lv_lconst (v := 1) hx hb dL_law__2076 (by decide) ?_
        refine lv_goto (tgt := 2081) hx hb dL_law__2077 (by decide) ?_
        refine W.lcmp hx hb dL_law__2081 ?_
        rw [a5]
        refine lv_if_eq (tgt := 2087) hx hb dL_law__2082 (by decide) (fun _ => ?_) (fun c => absurd (cmp_self _) c)
        refine lv_goto (tgt := 2214) hx hb dL_law__2087 (by decide) ?_
        exact W.widen (k := cells + 10) (n := slots + 400) (by omega) (by omega) (hend _ _ _ _ _ ls hL a4.2.2 (lv_sub hl [2, 3, 4, 5, 6] rfl))
  · skip
    obtain ⟨a1, a2, a3, a4⟩ := br σ x μ (xs (nI i + 1).toNatClampNeg) 1 (by unfold zb; decide) hRep
    refine lv_aload_n hx hb dL_law__1999 rfl (lv_at hl 3 rfl) ?_
    refine lv_aload_n hx hb dL_law__2000 rfl (lv_at hl 4 rfl) ?_
    refine lv_iload hx hb dL_law__2001 (lv_at hl 0 rfl) ?_
    refine lv_iconst (v := 1) hx hb dL_law__2003 (by decide) ?_
    refine lv_iadd hx hb dL_law__2004 ?_
    refine va_sld (A := fun q => x ≤ q) hx hb hX hb0 hbA hL.2.2.2 h1 dL_law__2005 ?_
    refine lv_aload_n hx hb dL_law__2006 rfl (lv_at hl 4 rfl) ?_
    refine lv_iload hx hb dL_law__2007 (lv_at hl 0 rfl) ?_
    refine lv_iconst (v := 2) hx hb dL_law__2009 (by decide) ?_
    refine lv_iadd hx hb dL_law__2010 ?_
    refine va_sld (A := fun q => x ≤ q) hx hb hX hb0 hbA hL.2.2.2 h2 dL_law__2011 ?_
    refine lv_if_eq (tgt := 2019) hx hb dL_law__2012 (by decide) (fun c => absurd c c9) (fun _ => ?_)
    refine lv_iconst (v := 1) hx hb dL_law__2015 (by decide) ?_
    refine lv_goto (tgt := 2020) hx hb dL_law__2016 (by decide) ?_
    refine lv_aload_n hx hb dL_law__2020 rfl (lv_at hl 1 rfl) ?_
    refine cl_H (av := [.ref x, .int (xs (nI i + 1).toNatClampNeg), .int 1, .ref oo]) (rest := []) C hC hL (k_L_doubt l D a x e0 (AW x mo oo) hfl oo f σ (xs (nI i + 1).toNatClampNeg) 1 a1 a2) cwh_doubt ⟨by omega, by omega⟩ rfl rfl hl.1 (Nat.le_of_ble_eq_true rfl) (by omega) (by omega) dL_law__2021 (fun H1 locs1 Nq hq hq0 hL => ?_)
    have a4 := a4 Nq f hq hq0
    generalize hh9 : hR cd_doubt cvZ (FL_doubt σ x (xs (nI i + 1).toNatClampNeg) 1 Nq) f σ = h9 at hL a4 ⊢
    refine lv_istore (lv' := [(5, .int h9.1), (4, .int (nI i)), (3, .ref oo), (2, .ref mo), (1, .ref x), (0, .ref b)]) hx hb dL_law__2024 hl (by decide) rfl (fun ls hl => ?_)
    refine lv_aload_n hx hb dL_law__2026 rfl (lv_at hl 3 rfl) ?_
    refine lv_aload_n hx hb dL_law__2027 rfl (lv_at hl 5 rfl) ?_
    refine lv_iload hx hb dL_law__2028 (lv_at hl 1 rfl) ?_
    refine lv_iconst (v := 1) hx hb dL_law__2030 (by decide) ?_
    refine lv_iadd hx hb dL_law__2031 ?_
    refine va_sld (A := fun q => x ≤ q) hx hb hX hb0 hbA hL.2.2.2 h1 dL_law__2032 ?_
    refine lv_aload_n hx hb dL_law__2033 rfl (lv_at hl 5 rfl) ?_
    refine lv_iload hx hb dL_law__2034 (lv_at hl 1 rfl) ?_
    refine lv_iconst (v := 2) hx hb dL_law__2036 (by decide) ?_
    refine lv_iadd hx hb dL_law__2037 ?_
    refine va_sld (A := fun q => x ≤ q) hx hb hX hb0 hbA hL.2.2.2 h2 dL_law__2038 ?_
    refine lv_if_eq (tgt := 2046) hx hb dL_law__2039 (by decide) (fun c => absurd c c9) (fun _ => ?_)
    refine lv_iconst (v := 1) hx hb dL_law__2042 (by decide) ?_
    refine lv_goto (tgt := 2047) hx hb dL_law__2043 (by decide) ?_
    refine cl_M (av := [.int (xs (nI i + 1).toNatClampNeg), .int 1]) (rest := []) C hC hL (k_X11_doubt l D a mo μ (xs (nI i + 1).toNatClampNeg) 1 a3) cwm_219 (okR_of (F := R.frames) (L := R.locals) rfl rfl (by omega) (by omega)) rfl rfl hl.1 (Nat.le_of_ble_eq_true rfl) (by omega) (by omega) dL_law__2047 (fun H2 locs2 hL => ?_)
    refine lv_istore (lv' := [(6, .int (f_X11_doubt μ (xs (nI i + 1).toNatClampNeg) 1).1), (5, .int h9.1), (4, .int (nI i)), (3, .ref oo), (2, .ref mo), (1, .ref x), (0, .ref b)]) hx hb dL_law__2050 hl (by decide) rfl (fun ls hl => ?_)
    refine lv_aload_n hx hb dL_law__2052 rfl (lv_at hl 4 rfl) ?_
    refine cl_R (av := []) (rest := []) C hL (k_X11_thrown l D a mo (f_X11_doubt μ (xs (nI i + 1).toNatClampNeg) 1).2) cwm_128 (okR_of (F := R.frames) (L := R.locals) rfl rfl (by omega) (by omega)) rfl rfl hl.1 (Nat.le_of_ble_eq_true rfl) (by omega) (by omega) dL_law__2053 ?_
    refine lv_iload hx hb dL_law__2056 (lv_at hl 1 rfl) ?_
    refine lv_icmp_eq (tgt := 2063) hx hb dL_law__2058 (by decide) (fun _ => ?_) (fun c => absurd a4.1 c)
    refine lv_iload hx hb dL_law__2063 (lv_at hl 1 rfl) ?_
    refine lv_if_ne (tgt := 2087) hx hb dL_law__2065 (by decide) (fun _ => ?_) (fun c8 => ?_)
    · skip
      refine lv_goto (tgt := 2214) hx hb dL_law__2087 (by decide) ?_
      exact W.widen (k := cells + 10) (n := slots + 400) (by omega) (by omega) (hend _ _ _ _ _ ls hL a4.2.2 (lv_sub hl [2, 3, 4, 5, 6] rfl))
    · have a5 := a4.2.1 c8
      refine lv_aload_n hx hb dL_law__2068 rfl (lv_at hl 3 rfl) ?_
      refine lv_iconst (v := 0) hx hb dL_law__2069 (by decide) ?_
      refine cl_out C hL dL_law__2070 ?_
      refine lv_iload hx hb dL_law__2071 (lv_at hl 0 rfl) ?_
      refine lv_if_eq (tgt := 2080) hx hb dL_law__2073 (by decide) (fun c7 => ?_) (fun c7 => ?_)
      · rw [if_pos c7] at a5
        refine lv_lconst (v := 0) hx hb dL_law__2080 (by decide) ?_
        refine W.lcmp hx hb dL_law__2081 ?_
        rw [a5]
        refine lv_if_eq (tgt := 2087) hx hb dL_law__2082 (by decide) (fun _ => ?_) (fun c => absurd (cmp_self _) c)
        refine lv_goto (tgt := 2214) hx hb dL_law__2087 (by decide) ?_
        exact W.widen (k := cells + 10) (n := slots + 400) (by omega) (by omega) (hend _ _ _ _ _ ls hL a4.2.2 (lv_sub hl [2, 3, 4, 5, 6] rfl))
      · rw [if_neg c7] at a5
        refine lv_lconst (v := 1) hx hb dL_law__2076 (by decide) ?_
        refine lv_goto (tgt := 2081) hx hb dL_law__2077 (by decide) ?_
        refine W.lcmp hx hb dL_law__2081 ?_
        rw [a5]
        refine lv_if_eq (tgt := 2087) hx hb dL_law__2082 (by decide) (fun _ => ?_) (fun c => absurd (cmp_self _) c)
        refine lv_goto (tgt := 2214) hx hb dL_law__2087 (by decide) ?_
        exact W.widen (k := cells + 10) (n := slots + 400) (by omega) (by omega) (hend _ _ _ _ _ ls hL a4.2.2 (lv_sub hl [2, 3, 4, 5, 6] rfl))
def Br_stone (Rep : XS → Nat → MS → Prop) : Prop := ∀ (σ : XS) (x : Nat) (μ : MS) (p0 p1 : Int32), Rep σ x μ → (of_X10_stone σ x p0 p1) ∧ (∀ nq k, FL_stone σ x p0 p1 nq = .error k → k = 3 ∨ k = 1) ∧ (of_X11_stone μ p0 p1) ∧ (∀ nq f, xk σ nq = 0 → nq ≠ 0 → f_X11_thrown (f_X11_stone μ p0 p1).2 = (hR cd_stone cvI (FL_stone σ x p0 p1 nq) f σ).1 ∧ ((hR cd_stone cvI (FL_stone σ x p0 p1 nq) f σ).1 = 0 → (hR cd_stone cvI (FL_stone σ x p0 p1 nq) f σ).2.1 0 = ((f_X11_stone μ p0 p1).1).toInt64) ∧ Rep (hR cd_stone cvI (FL_stone σ x p0 p1 nq) f σ).2.2 x (f_X11_stone μ p0 p1).2)
set_option maxRecDepth 100000 in
theorem lawc_stone (Rep : XS → Nat → MS → Prop) (br : Br_stone Rep) {p : Program} {l : Launch} (hfl : l.stackTraces = false) {e : Env} {R : Room} {s : State} {m : MethodId} {args : Array Value} {below : List Frame} {meth : Method} {c : Code} {H : Heap} {locs : List Loc} {cells slots : Nat} {Q : State → Prop} {D : va_G} {a : Nat → ClassId} {x e0 mo oo b N i : Nat} {xs : Nat → Int32} {σ : XS} {μ : MS} {f : Nat → Int64} {ls : Array Slot} (C : Cx D a p s m args c cL_law_ 8 RL) (hC : LC s D a x e0 mo oo) (hX : va_X b N xs s s.heap) (hb0 : b < s.heap.size) (hN : N ≤ 3072) (hi : i + 6 ≤ N) (hRf : 12 ≤ R.frames) (hRl : 400 ≤ R.locals) (hRc : cells + 10 ≤ R.cells) (hRs : slots + 400 ≤ R.slots) (hL : LI s D a x e0 mo oo σ μ f H locs) (hRep : Rep σ x μ) (hl : lv_has ls 8 [(4, .int (nI i)), (3, .ref oo), (2, .ref mo), (1, .ref x), (0, .ref b)]) (hend : ∀ σ1 μ1 f1 H1 locs1 ls1, LI s D a x e0 mo oo σ1 μ1 f1 H1 locs1 → Rep σ1 x μ1 → lv_has ls1 8 [(4, .int (nI i)), (3, .ref oo), (2, .ref mo), (1, .ref x), (0, .ref b)] → W p l e R s m args below meth c H1 locs1 (cells + 10) (slots + 400) Q (F0 m 2214 ls1 [])) : W p l e R s m args below meth c H locs cells slots Q (F0 m 2090 ls []) := by
  have hx := C.1.1
  have hb := C.1.2.1
  have hbA : ¬ x ≤ b := by rw [hC.1]; omega
  have h1 : vp_in (nI i + 1) N := by rw [show (1 : Int32) = nI 1 from rfl, nI_add]; exact nI_in (by omega) (by omega)
  have h2 : vp_in (nI i + 2) N := by rw [show (2 : Int32) = nI 2 from rfl, nI_add]; exact nI_in (by omega) (by omega)
  obtain ⟨a1, a2, a3, a4⟩ := br σ x μ (xs (nI i + 1).toNatClampNeg) (xs (nI i + 2).toNatClampNeg) hRep
  refine lv_aload_n hx hb dL_law__2090 rfl (lv_at hl 3 rfl) ?_
  refine lv_aload_n hx hb dL_law__2091 rfl (lv_at hl 4 rfl) ?_
  refine lv_iload hx hb dL_law__2092 (lv_at hl 0 rfl) ?_
  refine lv_iconst (v := 1) hx hb dL_law__2094 (by decide) ?_
  refine lv_iadd hx hb dL_law__2095 ?_
  refine va_sld (A := fun q => x ≤ q) hx hb hX hb0 hbA hL.2.2.2 h1 dL_law__2096 ?_
  refine lv_aload_n hx hb dL_law__2097 rfl (lv_at hl 4 rfl) ?_
  refine lv_iload hx hb dL_law__2098 (lv_at hl 0 rfl) ?_
  refine lv_iconst (v := 2) hx hb dL_law__2100 (by decide) ?_
  refine lv_iadd hx hb dL_law__2101 ?_
  refine va_sld (A := fun q => x ≤ q) hx hb hX hb0 hbA hL.2.2.2 h2 dL_law__2102 ?_
  refine lv_aload_n hx hb dL_law__2103 rfl (lv_at hl 1 rfl) ?_
  refine cl_H (av := [.ref x, .int (xs (nI i + 1).toNatClampNeg), .int (xs (nI i + 2).toNatClampNeg), .ref oo]) (rest := []) C hC hL (k_L_stone l D a x e0 (AW x mo oo) hfl oo f σ (xs (nI i + 1).toNatClampNeg) (xs (nI i + 2).toNatClampNeg) a1 a2) cwh_stone ⟨by omega, by omega⟩ rfl rfl hl.1 (Nat.le_of_ble_eq_true rfl) (by omega) (by omega) dL_law__2104 (fun H1 locs1 Nq hq hq0 hL => ?_)
  have a4 := a4 Nq f hq hq0
  generalize hh9 : hR cd_stone cvI (FL_stone σ x (xs (nI i + 1).toNatClampNeg) (xs (nI i + 2).toNatClampNeg) Nq) f σ = h9 at hL a4 ⊢
  refine lv_istore (lv' := [(5, .int h9.1), (4, .int (nI i)), (3, .ref oo), (2, .ref mo), (1, .ref x), (0, .ref b)]) hx hb dL_law__2107 hl (by decide) rfl (fun ls hl => ?_)
  refine lv_aload_n hx hb dL_law__2109 rfl (lv_at hl 3 rfl) ?_
  refine lv_aload_n hx hb dL_law__2110 rfl (lv_at hl 5 rfl) ?_
  refine lv_iload hx hb dL_law__2111 (lv_at hl 1 rfl) ?_
  refine lv_iconst (v := 1) hx hb dL_law__2113 (by decide) ?_
  refine lv_iadd hx hb dL_law__2114 ?_
  refine va_sld (A := fun q => x ≤ q) hx hb hX hb0 hbA hL.2.2.2 h1 dL_law__2115 ?_
  refine lv_aload_n hx hb dL_law__2116 rfl (lv_at hl 5 rfl) ?_
  refine lv_iload hx hb dL_law__2117 (lv_at hl 1 rfl) ?_
  refine lv_iconst (v := 2) hx hb dL_law__2119 (by decide) ?_
  refine lv_iadd hx hb dL_law__2120 ?_
  refine va_sld (A := fun q => x ≤ q) hx hb hX hb0 hbA hL.2.2.2 h2 dL_law__2121 ?_
  refine cl_M (av := [.int (xs (nI i + 1).toNatClampNeg), .int (xs (nI i + 2).toNatClampNeg)]) (rest := []) C hC hL (k_X11_stone l D a mo μ (xs (nI i + 1).toNatClampNeg) (xs (nI i + 2).toNatClampNeg) a3) cwm_222 (okR_of (F := R.frames) (L := R.locals) rfl rfl (by omega) (by omega)) rfl rfl hl.1 (Nat.le_of_ble_eq_true rfl) (by omega) (by omega) dL_law__2122 (fun H2 locs2 hL => ?_)
  refine lv_istore (lv' := [(6, .int (f_X11_stone μ (xs (nI i + 1).toNatClampNeg) (xs (nI i + 2).toNatClampNeg)).1), (5, .int h9.1), (4, .int (nI i)), (3, .ref oo), (2, .ref mo), (1, .ref x), (0, .ref b)]) hx hb dL_law__2125 hl (by decide) rfl (fun ls hl => ?_)
  refine lv_aload_n hx hb dL_law__2127 rfl (lv_at hl 4 rfl) ?_
  refine cl_R (av := []) (rest := []) C hL (k_X11_thrown l D a mo (f_X11_stone μ (xs (nI i + 1).toNatClampNeg) (xs (nI i + 2).toNatClampNeg)).2) cwm_128 (okR_of (F := R.frames) (L := R.locals) rfl rfl (by omega) (by omega)) rfl rfl hl.1 (Nat.le_of_ble_eq_true rfl) (by omega) (by omega) dL_law__2128 ?_
  refine lv_iload hx hb dL_law__2131 (lv_at hl 1 rfl) ?_
  refine lv_icmp_eq (tgt := 2138) hx hb dL_law__2133 (by decide) (fun _ => ?_) (fun c => absurd a4.1 c)
  refine lv_iload hx hb dL_law__2138 (lv_at hl 1 rfl) ?_
  refine lv_if_ne (tgt := 2155) hx hb dL_law__2140 (by decide) (fun _ => ?_) (fun c8 => ?_)
  · skip
    refine lv_goto (tgt := 2214) hx hb dL_law__2155 (by decide) ?_
    exact W.widen (k := cells + 10) (n := slots + 400) (by omega) (by omega) (hend _ _ _ _ _ ls hL a4.2.2 (lv_sub hl [2, 3, 4, 5, 6] rfl))
  · have a5 := a4.2.1 c8
    refine lv_aload_n hx hb dL_law__2143 rfl (lv_at hl 3 rfl) ?_
    refine lv_iconst (v := 0) hx hb dL_law__2144 (by decide) ?_
    refine cl_out C hL dL_law__2145 ?_
    refine lv_iload hx hb dL_law__2146 (lv_at hl 0 rfl) ?_
    refine lv_i2l (v := ((f_X11_stone μ (xs (nI i + 1).toNatClampNeg) (xs (nI i + 2).toNatClampNeg)).1).toInt64) hx hb dL_law__2148 rfl ?_
    refine W.lcmp hx hb dL_law__2149 ?_
    rw [a5]
    refine lv_if_eq (tgt := 2155) hx hb dL_law__2150 (by decide) (fun _ => ?_) (fun c => absurd (cmp_self _) c)
    refine lv_goto (tgt := 2214) hx hb dL_law__2155 (by decide) ?_
    exact W.widen (k := cells + 10) (n := slots + 400) (by omega) (by omega) (hend _ _ _ _ _ ls hL a4.2.2 (lv_sub hl [2, 3, 4, 5, 6] rfl))
def Br_whole (Rep : XS → Nat → MS → Prop) : Prop := ∀ (σ : XS) (x : Nat) (μ : MS) (p0 : Int32), Rep σ x μ → (of_X10_whole σ x p0) ∧ (∀ nq k, FL_whole σ x p0 nq = .error k → k = 3) ∧ (of_X11_whole μ p0) ∧ (∀ nq f, xk σ nq = 0 → nq ≠ 0 → f_X11_thrown (f_X11_whole μ p0).2 = (hR cd_whole cvI (FL_whole σ x p0 nq) f σ).1 ∧ ((hR cd_whole cvI (FL_whole σ x p0 nq) f σ).1 = 0 → (hR cd_whole cvI (FL_whole σ x p0 nq) f σ).2.1 0 = ((f_X11_whole μ p0).1).toInt64) ∧ Rep (hR cd_whole cvI (FL_whole σ x p0 nq) f σ).2.2 x (f_X11_whole μ p0).2)
set_option maxRecDepth 100000 in
theorem lawc_whole (Rep : XS → Nat → MS → Prop) (br : Br_whole Rep) {p : Program} {l : Launch} (hfl : l.stackTraces = false) {e : Env} {R : Room} {s : State} {m : MethodId} {args : Array Value} {below : List Frame} {meth : Method} {c : Code} {H : Heap} {locs : List Loc} {cells slots : Nat} {Q : State → Prop} {D : va_G} {a : Nat → ClassId} {x e0 mo oo b N i : Nat} {xs : Nat → Int32} {σ : XS} {μ : MS} {f : Nat → Int64} {ls : Array Slot} (C : Cx D a p s m args c cL_law_ 8 RL) (hC : LC s D a x e0 mo oo) (hX : va_X b N xs s s.heap) (hb0 : b < s.heap.size) (hN : N ≤ 3072) (hi : i + 6 ≤ N) (hRf : 12 ≤ R.frames) (hRl : 400 ≤ R.locals) (hRc : cells + 10 ≤ R.cells) (hRs : slots + 400 ≤ R.slots) (hL : LI s D a x e0 mo oo σ μ f H locs) (hRep : Rep σ x μ) (hl : lv_has ls 8 [(4, .int (nI i)), (3, .ref oo), (2, .ref mo), (1, .ref x), (0, .ref b)]) (hend : ∀ σ1 μ1 f1 H1 locs1 ls1, LI s D a x e0 mo oo σ1 μ1 f1 H1 locs1 → Rep σ1 x μ1 → lv_has ls1 8 [(4, .int (nI i)), (3, .ref oo), (2, .ref mo), (1, .ref x), (0, .ref b)] → W p l e R s m args below meth c H1 locs1 (cells + 10) (slots + 400) Q (F0 m 2214 ls1 [])) : W p l e R s m args below meth c H locs cells slots Q (F0 m 2158 ls []) := by
  have hx := C.1.1
  have hb := C.1.2.1
  have hbA : ¬ x ≤ b := by rw [hC.1]; omega
  have h1 : vp_in (nI i + 1) N := by rw [show (1 : Int32) = nI 1 from rfl, nI_add]; exact nI_in (by omega) (by omega)
  obtain ⟨a1, a2, a3, a4⟩ := br σ x μ (xs (nI i + 1).toNatClampNeg) hRep
  refine lv_aload_n hx hb dL_law__2158 rfl (lv_at hl 3 rfl) ?_
  refine lv_aload_n hx hb dL_law__2159 rfl (lv_at hl 4 rfl) ?_
  refine lv_iload hx hb dL_law__2160 (lv_at hl 0 rfl) ?_
  refine lv_iconst (v := 1) hx hb dL_law__2162 (by decide) ?_
  refine lv_iadd hx hb dL_law__2163 ?_
  refine va_sld (A := fun q => x ≤ q) hx hb hX hb0 hbA hL.2.2.2 h1 dL_law__2164 ?_
  refine lv_aload_n hx hb dL_law__2165 rfl (lv_at hl 1 rfl) ?_
  refine cl_H (av := [.ref x, .int (xs (nI i + 1).toNatClampNeg), .ref oo]) (rest := []) C hC hL (k_L_whole l D a x e0 (AW x mo oo) hfl oo f σ (xs (nI i + 1).toNatClampNeg) a1 a2) cwh_whole ⟨by omega, by omega⟩ rfl rfl hl.1 (Nat.le_of_ble_eq_true rfl) (by omega) (by omega) dL_law__2166 (fun H1 locs1 Nq hq hq0 hL => ?_)
  have a4 := a4 Nq f hq hq0
  generalize hh9 : hR cd_whole cvI (FL_whole σ x (xs (nI i + 1).toNatClampNeg) Nq) f σ = h9 at hL a4 ⊢
  refine lv_istore (lv' := [(5, .int h9.1), (4, .int (nI i)), (3, .ref oo), (2, .ref mo), (1, .ref x), (0, .ref b)]) hx hb dL_law__2169 hl (by decide) rfl (fun ls hl => ?_)
  refine lv_aload_n hx hb dL_law__2171 rfl (lv_at hl 3 rfl) ?_
  refine lv_aload_n hx hb dL_law__2172 rfl (lv_at hl 5 rfl) ?_
  refine lv_iload hx hb dL_law__2173 (lv_at hl 1 rfl) ?_
  refine lv_iconst (v := 1) hx hb dL_law__2175 (by decide) ?_
  refine lv_iadd hx hb dL_law__2176 ?_
  refine va_sld (A := fun q => x ≤ q) hx hb hX hb0 hbA hL.2.2.2 h1 dL_law__2177 ?_
  refine cl_M (av := [.int (xs (nI i + 1).toNatClampNeg)]) (rest := []) C hC hL (k_X11_whole l D a mo μ (xs (nI i + 1).toNatClampNeg) a3) cwm_225 (okR_of (F := R.frames) (L := R.locals) rfl rfl (by omega) (by omega)) rfl rfl hl.1 (Nat.le_of_ble_eq_true rfl) (by omega) (by omega) dL_law__2178 (fun H2 locs2 hL => ?_)
  refine lv_istore (lv' := [(6, .int (f_X11_whole μ (xs (nI i + 1).toNatClampNeg)).1), (5, .int h9.1), (4, .int (nI i)), (3, .ref oo), (2, .ref mo), (1, .ref x), (0, .ref b)]) hx hb dL_law__2181 hl (by decide) rfl (fun ls hl => ?_)
  refine lv_aload_n hx hb dL_law__2183 rfl (lv_at hl 4 rfl) ?_
  refine cl_R (av := []) (rest := []) C hL (k_X11_thrown l D a mo (f_X11_whole μ (xs (nI i + 1).toNatClampNeg)).2) cwm_128 (okR_of (F := R.frames) (L := R.locals) rfl rfl (by omega) (by omega)) rfl rfl hl.1 (Nat.le_of_ble_eq_true rfl) (by omega) (by omega) dL_law__2184 ?_
  refine lv_iload hx hb dL_law__2187 (lv_at hl 1 rfl) ?_
  refine lv_icmp_eq (tgt := 2194) hx hb dL_law__2189 (by decide) (fun _ => ?_) (fun c => absurd a4.1 c)
  refine lv_iload hx hb dL_law__2194 (lv_at hl 1 rfl) ?_
  refine lv_if_ne (tgt := 2211) hx hb dL_law__2196 (by decide) (fun _ => ?_) (fun c8 => ?_)
  · skip
    refine lv_goto (tgt := 2214) hx hb dL_law__2211 (by decide) ?_
    exact W.widen (k := cells + 10) (n := slots + 400) (by omega) (by omega) (hend _ _ _ _ _ ls hL a4.2.2 (lv_sub hl [2, 3, 4, 5, 6] rfl))
  · have a5 := a4.2.1 c8
    refine lv_aload_n hx hb dL_law__2199 rfl (lv_at hl 3 rfl) ?_
    refine lv_iconst (v := 0) hx hb dL_law__2200 (by decide) ?_
    refine cl_out C hL dL_law__2201 ?_
    refine lv_iload hx hb dL_law__2202 (lv_at hl 0 rfl) ?_
    refine lv_i2l (v := ((f_X11_whole μ (xs (nI i + 1).toNatClampNeg)).1).toInt64) hx hb dL_law__2204 rfl ?_
    refine W.lcmp hx hb dL_law__2205 ?_
    rw [a5]
    refine lv_if_eq (tgt := 2211) hx hb dL_law__2206 (by decide) (fun _ => ?_) (fun c => absurd (cmp_self _) c)
    refine lv_goto (tgt := 2214) hx hb dL_law__2211 (by decide) ?_
    exact W.widen (k := cells + 10) (n := slots + 400) (by omega) (by omega) (hend _ _ _ _ _ ls hL a4.2.2 (lv_sub hl [2, 3, 4, 5, 6] rfl))
