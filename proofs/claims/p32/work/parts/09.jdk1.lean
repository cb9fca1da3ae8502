/-! ===== java.util.ArrayList: size and get ===== -/
theorem tb_AL : ∀ w ∈ u_ws RJx4a65c TJx4a65c 3, w ∈ TB := by
  have h : ∀ w ∈ u_ws RJx4a65c TJx4a65c 3, w ∈ lw_tbl ∧ goodWord w = true := by decide +kernel
  exact fun w hw => List.mem_filter.mpr (h w hw)
def hdOK (y : MethodName) (n : Nat) : Bool := decide (y.cls ≠ "java/lang/invoke/MethodHandle") && decide (y.cls ≠ "java/lang/invoke/VarHandle") && decide ((parseMethodDescriptor y.desc).map (fun d => d.parameters.length) = some n)
section JDK1
variable {l : Launch} {D : va_G} {a : Nat → ClassId} {q ar : Nat} {mc : Int32}
abbrev alE (q : Nat) (mc : Int32) (ar : Nat) (n : Int32) : Nat × va_E := (q, .inr (0, [.int mc, .ref ar, .int n]))
abbrev arE (a : Nat → ClassId) (ar cap : Nat) (g : Nat → Option Nat) : Nat × va_E := (ar, .inl (a 4, cap, .inr (.inr (.inr (.inr g)))))
set_option maxRecDepth 100000 in
theorem j_size (l : Launch) (D : va_G) (a : Nat → ClassId) (q : Nat) (mc : Int32) (ar : Nat) (n : Int32) : K0 l yJx4a65c_size_8abf5 cJx4a65c_size_8abf5 1 (some .int) 0 0 (.ref q :: []) (fun U => va_K D vwCl (tyL a) U ∧ va_at D vwCl (alE q mc ar n) U.heap) (.int n) := by
  refine go0i (D := D) (a := a) (by decide +kernel) (fun _ h => h.1) (Nat.le_of_ble_eq_true rfl) ?_
  intro p e s m args below meth c ls R Q hRf hRl C hl hB
  obtain ⟨hB, ret⟩ := hB
  have hl : lv_has ls 1 [(0, .ref q)] := hl
  have hx := C.1.1
  have hb := C.1.2.1
  refine lv_aload_n hx hb dJx4a65c_size_8abf5_0 rfl (lv_at hl 0 rfl) ?_
  refine va_get (D := D) (cl := vwCl) (tys := tyL a) (ws := [alE q mc ar n]) (ci := 0) (C := RJx4a65c) (T := TJx4a65c) (N := 3) hx hb C.1.2.2.2.2 tb_AL C.1.2.2.2.1 C.2 (va_at_single hB.2) 0 rfl rfl 2 (by decide) (C.1.2.2.2.2 _ q_73) (fun _ h9 => h9) rfl dJx4a65c_size_8abf5_1 ?_
  exact ret _ _ _ dJx4a65c_size_8abf5_4 rfl
set_option maxRecDepth 100000 in
theorem j_chk3 (l : Launch) (D : va_G) (a : Nat → ClassId) (i n : Int32) (h0 : ¬ i < 0) (h1 : i < n) : K0 l yJ3_checkIndex_8e157 cJ3_checkIndex_8e157 3 (some .int) 0 0 [.int i, .int n, .null] (BK D a) (.int i) := by
  refine go0i (D := D) (a := a) (by decide +kernel) (fun _ h => h) (Nat.le_of_ble_eq_true rfl) ?_
  intro p e s m args below meth c ls R Q hRf hRl C hl hB
  obtain ⟨hB, ret⟩ := hB
  have hl : lv_has ls 3 [(0, .int i), (1, .int n), (2, .null)] := hl
  have hx := C.1.1
  have hb := C.1.2.1
  refine lv_iload_n hx hb dJ3_checkIndex_8e157_0 rfl (lv_at hl 0 rfl) ?_
  refine lv_if_lt (tgt := 9) hx hb dJ3_checkIndex_8e157_1 (by decide) (fun c => absurd c h0) (fun _ => ?_)
  refine lv_iload_n hx hb dJ3_checkIndex_8e157_4 rfl (lv_at hl 0 rfl) ?_
  refine lv_iload_n hx hb dJ3_checkIndex_8e157_5 rfl (lv_at hl 1 rfl) ?_
  refine lv_icmp_lt (tgt := 16) hx hb dJ3_checkIndex_8e157_6 (by decide) (fun _ => ?_) (fun c => absurd h1 c)
  refine lv_iload_n hx hb dJ3_checkIndex_8e157_16 rfl (lv_at hl 0 rfl) ?_
  exact ret _ _ _ dJ3_checkIndex_8e157_17 rfl
theorem jw_chk3 : CWS RJ15 105 yJ3_checkIndex_8e157 cJ3_checkIndex_8e157 3 (some .int) 3 := ⟨q_439, q_440, q_45, q_441, by decide +kernel, by decide +kernel, by decide +kernel⟩
theorem jw_chk2 : CWS RJx4a65c 118 yJ15_checkIndex_7cf53 cJ15_checkIndex_7cf53 2 (some .int) 2 := ⟨q_436, q_437, q_44, q_438, by decide +kernel, by decide +kernel, by decide +kernel⟩
theorem jw_elem : CWV RJx4a65c RJx4a65c 123 yJx4a65c_elementData_915e3 cJx4a65c_elementData_915e3 2 (some (.object "java/lang/Object")) 1 := ⟨q_442, q_443, q_444, q_29, q_445, rfl, by decide +kernel, by decide +kernel, by decide +kernel⟩
set_option maxRecDepth 100000 in
theorem j_chk2 (l : Launch) (D : va_G) (a : Nat → ClassId) (i n : Int32) (h0 : ¬ i < 0) (h1 : i < n) : K0 l yJ15_checkIndex_7cf53 cJ15_checkIndex_7cf53 2 (some .int) 1 22 [.int i, .int n] (BK D a) (.int i) := by
  refine go0i (D := D) (a := a) (by decide +kernel) (fun _ h => h) (Nat.le_of_ble_eq_true rfl) ?_
  intro p e s m args below meth c ls R Q hRf hRl C hl hB
  obtain ⟨hB, ret⟩ := hB
  have hl : lv_has ls 2 [(0, .int i), (1, .int n)] := hl
  have hx := C.1.1
  have hb := C.1.2.1
  refine lv_iload_n hx hb dJ15_checkIndex_7cf53_0 rfl (lv_at hl 0 rfl) ?_
  refine lv_iload_n hx hb dJ15_checkIndex_7cf53_1 rfl (lv_at hl 1 rfl) ?_
  refine lv_null hx hb dJ15_checkIndex_7cf53_2 ?_
  refine cc_S (av := [.int i, .int n, .null]) C (j_chk3 l D a i n h0 h1) jw_chk3 (okR_of hRf hRl (Nat.le_of_ble_eq_true rfl) (Nat.le_of_ble_eq_true rfl)) rfl rfl hl.1 (Nat.le_of_ble_eq_true rfl) (Nat.zero_le _) (Nat.zero_le _) dJ15_checkIndex_7cf53_3 ?_
  exact ret _ _ _ dJ15_checkIndex_7cf53_6 rfl
abbrev BL (D : va_G) (a : Nat → ClassId) (q : Nat) (mc : Int32) (ar : Nat) (n : Int32) (cap : Nat) (g : Nat → Option Nat) (U : State) : Prop := va_K D vwCl (tyL a) U ∧ va_at D vwCl (alE q mc ar n) U.heap ∧ va_at D vwCl (arE a ar cap g) U.heap
set_option maxRecDepth 100000 in
theorem j_elem (l : Launch) (D : va_G) (a : Nat → ClassId) (q : Nat) (mc : Int32) (ar : Nat) (n : Int32) (cap : Nat) (g : Nat → Option Nat) (i : Int32) (w : Nat) (hi : vp_in i cap) (hg : g (ix i) = some w) : K0 l yJx4a65c_elementData_915e3 cJx4a65c_elementData_915e3 2 (some (.object "java/lang/Object")) 0 0 (.ref q :: [.int i]) (BL D a q mc ar n cap g) (.ref w) := by
  refine go0a (D := D) (a := a) (by decide +kernel) (fun _ h => h.1) (Nat.le_of_ble_eq_true rfl) ?_
  intro p e s m args below meth c ls R Q hRf hRl C hl hB
  obtain ⟨hB, ret⟩ := hB
  have hl : lv_has ls 2 [(0, .ref q), (1, .int i)] := hl
  have hx := C.1.1
  have hb := C.1.2.1
  refine lv_aload_n hx hb dJx4a65c_elementData_915e3_0 rfl (lv_at hl 0 rfl) ?_
  refine va_get (D := D) (cl := vwCl) (tys := tyL a) (ws := [alE q mc ar n]) (ci := 0) (C := RJx4a65c) (T := TJx4a65c) (N := 3) hx hb C.1.2.2.2.2 tb_AL C.1.2.2.2.1 C.2 (va_at_single hB.2.1) 0 rfl rfl 1 (by decide) (C.1.2.2.2.2 _ q_72) (fun _ h9 => h9) rfl dJx4a65c_elementData_915e3_1 ?_
  refine lv_iload_n hx hb dJx4a65c_elementData_915e3_4 rfl (lv_at hl 1 rfl) ?_
  refine va_aldq (D := D) (cl := vwCl) (tys := tyL a) (ws := [arE a ar cap g]) (C := "java/lang/Object") hx hb C.2 (va_at_single hB.2.2) 0 4 rfl rfl hi dJx4a65c_elementData_915e3_5 ?_
  rw [show g i.toNatClampNeg = some w from hg]
  exact ret _ _ _ dJx4a65c_elementData_915e3_6 rfl
theorem jl_recv {p : Program} {s : State} {m : MethodId} {args : Array Value} {c : Code} {cc : ByteArray} {nL : Nat} {own : String} {H : Heap} {n : Int32} (C : Cx D a p s m args c cc nL own) (h : va_at D vwCl (alE q mc ar n) H) : ∃ cellB : Cell, H[q]? = some cellB ∧ cellB.vm.isStatics = false ∧ s.vm.findClass RJx4a65c = some cellB.cls := va_recv (D := D) (cl := vwCl) (tys := tyL a) (q := (RJx4a65c, TJx4a65c, 3)) (ws := [alE q mc ar n]) (ci := 0) (q0 := 0) C.2 (va_at_single h) rfl rfl
set_option maxRecDepth 100000 in
theorem j_get (l : Launch) (D : va_G) (a : Nat → ClassId) (q : Nat) (mc : Int32) (ar : Nat) (n : Int32) (cap : Nat) (g : Nat → Option Nat) (i : Int32) (w : Nat) (h0 : ¬ i < 0) (h1 : i < n) (hi : vp_in i cap) (hg : g (ix i) = some w) : K0 l yJx4a65c_get_915e3 cJx4a65c_get_915e3 2 (some (.object "java/lang/Object")) 2 43 (.ref q :: [.int i]) (BL D a q mc ar n cap g) (.ref w) := by
  refine go0a (D := D) (a := a) (by decide +kernel) (fun _ h => h.1) (Nat.le_of_ble_eq_true rfl) ?_
  intro p e s m args below meth c ls R Q hRf hRl C hl hB
  obtain ⟨hB, ret⟩ := hB
  have hl : lv_has ls 2 [(0, .ref q), (1, .int i)] := hl
  have hx := C.1.1
  have hb := C.1.2.1
  refine lv_iload_n hx hb dJx4a65c_get_915e3_0 rfl (lv_at hl 1 rfl) ?_
  refine lv_aload_n hx hb dJx4a65c_get_915e3_1 rfl (lv_at hl 0 rfl) ?_
  refine va_get (D := D) (cl := vwCl) (tys := tyL a) (ws := [alE q mc ar n]) (ci := 0) (C := RJx4a65c) (T := TJx4a65c) (N := 3) hx hb C.1.2.2.2.2 tb_AL C.1.2.2.2.1 C.2 (va_at_single hB.2.1) 0 rfl rfl 2 (by decide) (C.1.2.2.2.2 _ q_73) (fun _ h9 => h9) rfl dJx4a65c_get_915e3_2 ?_
  refine cc_S (av := [.int i, .int n]) C (j_chk2 l D a i n h0 h1) jw_chk2 (okR_of hRf hRl (Nat.le_of_ble_eq_true rfl) (Nat.le_of_ble_eq_true rfl)) rfl rfl hl.1 (Nat.le_of_ble_eq_true rfl) (Nat.zero_le _) (Nat.zero_le _) dJx4a65c_get_915e3_5 ?_
  refine lv_pop hx hb dJx4a65c_get_915e3_8 rfl ?_
  refine lv_aload_n hx hb dJx4a65c_get_915e3_9 rfl (lv_at hl 0 rfl) ?_
  refine lv_iload_n hx hb dJx4a65c_get_915e3_10 rfl (lv_at hl 1 rfl) ?_
  refine call0V (av := [.int i]) C (j_elem l D a q mc ar n cap g i w hi hg) jw_elem (okR_of hRf hRl (Nat.le_of_ble_eq_true rfl) (Nat.le_of_ble_eq_true rfl)) (jl_recv C hB.2.1) (fun U g mk x q => ⟨bk_blind g mk x q.1, q.2⟩) (fun U hU hW => ⟨va_K.moved hW.alike C.2, by rw [hU]; exact hB.2⟩) rfl rfl hl.1 (Nat.le_of_ble_eq_true rfl) (Nat.zero_le _) (Nat.zero_le _) dJx4a65c_get_915e3_11 ?_
  exact ret _ _ _ dJx4a65c_get_915e3_14 rfl
end JDK1

