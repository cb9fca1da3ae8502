def f_X10_requireRange_10 (p1 : Int32) (p2 : Int32) (p3 : Int32) : Except Nat (Unit) := .error 1
def f_X10_requireRange (p1 : Int32) (p2 : Int32) (p3 : Int32) : Except Nat (Unit) := (if p1 < p2 then (f_X10_requireRange_10 p1 p2 p3) else (if p1 ≤ p3 then .ok () else (f_X10_requireRange_10 p1 p2 p3)))
set_option maxHeartbeats 4000000 in
set_option maxRecDepth 100000 in
theorem k_X10_requireRange (l : Launch) (D : va_G) (a : Nat → ClassId) (e0 : Nat) (A : Nat → Prop) (hfl : l.stackTraces = false) (p1 : Int32) (p2 : Int32) (p3 : Int32) : KT0 l yX10_requireRange cX10_requireRange 3 none 6 92 1 6 [.int p1, .int p2, .int p3] (BE D a e0 A) (fun _ => none) (f_X10_requireRange p1 p2 p3) := by
  refine goTv (D := D) (a := a) (e0 := e0) (A := A) (fun _ h => h) hfl rfl (by decide +kernel) (Nat.le_of_ble_eq_true rfl) ?_
  intro p e s m args below meth c ls R Q hRf hRl hRc hRs C hB hl ret thr out
  have hE := hB
  have hl : lv_has ls 3 [(0, .int p1), (1, .int p2), (2, .int p3)] := hl
  have hx := C.1.1
  have hb := C.1.2.1
  have hts := C.1.2.2.2.2
  have hown := C.1.2.2.2.1
  have hf : (f_X10_requireRange p1 p2 p3) = (f_X10_requireRange p1 p2 p3) := rfl
  have J_10 : (f_X10_requireRange p1 p2 p3) = f_X10_requireRange_10 p1 p2 p3 → ∀ (ls : Array Slot), lv_has ls 3 [] → W p l e R s m args below meth c s.heap [] 0 0 Q (F0 m 10 ls []) := by
    intro hf ls hl
    obtain ⟨sa, hsr⟩ := hE.2.2.1 _ str_354
    exact thr (k := 1) thr_287 hsr (hl.1.trans C.1.2.2.1.symm) dX10_requireRange_10 dX10_requireRange_13 (Or.inr ⟨dX10_requireRange_14, dX10_requireRange_17, dX10_requireRange_20⟩) (by rw [hRf]; exact Nat.le_of_ble_eq_true rfl) (by rw [hRl]; exact Nat.le_of_ble_eq_true rfl) (Nat.le_of_ble_eq_true rfl) (Nat.le_of_ble_eq_true rfl) hf
  refine lv_iload_n hx hb dX10_requireRange_0 rfl (lv_at hl 0 rfl) ?_
  refine lv_iload_n hx hb dX10_requireRange_1 rfl (lv_at hl 1 rfl) ?_
  refine lv_icmp_lt (tgt := 10) hx hb dX10_requireRange_2 (by decide) (fun c_1 => ?_) (fun c_1 => ?_)
  · have hf := hf.trans (if_pos c_1)
    exact J_10 hf ls (lv_sub hl [] rfl)
  · have hf := hf.trans (if_neg c_1)
    refine lv_iload_n hx hb dX10_requireRange_5 rfl (lv_at hl 0 rfl) ?_
    refine lv_iload_n hx hb dX10_requireRange_6 rfl (lv_at hl 2 rfl) ?_
    refine lv_icmp_le (tgt := 21) hx hb dX10_requireRange_7 (by decide) (fun c_2 => ?_) (fun c_2 => ?_)
    · have hf := hf.trans (if_pos c_2)
      refine W.widen (k := 1) (n := 6) (Nat.le_of_ble_eq_true rfl) (Nat.le_of_ble_eq_true rfl) ?_
      exact ret _ _ dX10_requireRange_21 hf
    · have hf := hf.trans (if_neg c_2)
      exact J_10 hf ls (lv_sub hl [] rfl)
def f_X10_requireCell (p1 : Int32) (p2 : Int32) : Except Nat (Unit) := (exb (f_X10_requireRange p1 0 99) (fun v9_1 => (exb (f_X10_requireRange p2 0 99) (fun v9_2 => .ok ()))))
set_option maxHeartbeats 4000000 in
set_option maxRecDepth 100000 in
theorem k_X10_requireCell (l : Launch) (D : va_G) (a : Nat → ClassId) (e0 : Nat) (A : Nat → Prop) (hfl : l.stackTraces = false) (p1 : Int32) (p2 : Int32) : KT0 l yX10_requireCell cX10_requireCell 2 none 7 114 2 12 [.int p1, .int p2] (BE D a e0 A) (fun _ => none) (f_X10_requireCell p1 p2) := by
  refine goTv (D := D) (a := a) (e0 := e0) (A := A) (fun _ h => h) hfl rfl (by decide +kernel) (Nat.le_of_ble_eq_true rfl) ?_
  intro p e s m args below meth c ls R Q hRf hRl hRc hRs C hB hl ret thr out
  have hE := hB
  have hl : lv_has ls 2 [(0, .int p1), (1, .int p2)] := hl
  have hx := C.1.1
  have hb := C.1.2.1
  have hts := C.1.2.2.2.2
  have hown := C.1.2.2.2.1
  have hf : (f_X10_requireCell p1 p2) = (f_X10_requireCell p1 p2) := rfl
  refine lv_iload_n hx hb dX10_requireCell_0 rfl (lv_at hl 0 rfl) ?_
  refine lv_iconst (v := 0) hx hb dX10_requireCell_1 (by decide) ?_
  refine lv_bipush (v := 99) hx hb dX10_requireCell_2 (by decide) ?_
  refine cc_TS (av := [.int p1, .int 0, .int 99]) C (k_X10_requireRange l D a e0 A hfl p1 0 99) cw_X10_81 (okR_of hRf hRl (Nat.le_of_ble_eq_true rfl) (Nat.le_of_ble_eq_true rfl)) (fun U g mk z q => be_blind g mk z q) (fun U hU hW => EV.at hE va_S.rf hW hU) rfl rfl hl.1 (Nat.le_of_ble_eq_true rfl) (by rw [hRc]; exact Nat.le_of_ble_eq_true rfl) (by rw [hRs]; exact Nat.le_of_ble_eq_true rfl) dX10_requireCell_4 (fun k9 E9 ce9 q9 H9 hF9 z1 z2 z3 z4 z5 z6 => out z1 z2 z3 z4 z5 z6 (Nat.le_of_ble_eq_true rfl) (Nat.le_of_ble_eq_true rfl) (hf.trans (exb_er hF9))) (fun v9_1 hv9_1 => ?_)
  have hf := hf.trans (exb_ok hv9_1)
  refine lv_iload_n hx hb dX10_requireCell_7 rfl (lv_at hl 1 rfl) ?_
  refine lv_iconst (v := 0) hx hb dX10_requireCell_8 (by decide) ?_
  refine lv_bipush (v := 99) hx hb dX10_requireCell_9 (by decide) ?_
  refine cc_TS (av := [.int p2, .int 0, .int 99]) C (k_X10_requireRange l D a e0 A hfl p2 0 99) cw_X10_81 (okR_of hRf hRl (Nat.le_of_ble_eq_true rfl) (Nat.le_of_ble_eq_true rfl)) (fun U g mk z q => be_blind g mk z q) (fun U hU hW => EV.at hE va_S.rf hW hU) rfl rfl hl.1 (Nat.le_of_ble_eq_true rfl) (by rw [hRc]; exact Nat.le_of_ble_eq_true rfl) (by rw [hRs]; exact Nat.le_of_ble_eq_true rfl) dX10_requireCell_11 (fun k9 E9 ce9 q9 H9 hF9 z1 z2 z3 z4 z5 z6 => out z1 z2 z3 z4 z5 z6 (Nat.le_of_ble_eq_true rfl) (Nat.le_of_ble_eq_true rfl) (hf.trans (exb_er hF9))) (fun v9_2 hv9_2 => ?_)
  have hf := hf.trans (exb_ok hv9_2)
  exact ret _ _ dX10_requireCell_14 hf
def f_X10_camera_51 (σ : XS) (x : Nat) (nq : Nat) (p1 : Int32) (p2 : Int32) (p3 : Int32) (t0_51 : Nat) (σ_51 : XS) : Except Nat (Int32 × XS) := .ok (((nI (xn (xAdd σ_51 0 t0_51) 0)) - 1), (xAdd σ_51 0 t0_51))
def of_X10_camera_51 (σ : XS) (x : Nat) (nq : Nat) (p1 : Int32) (p2 : Int32) (p3 : Int32) (t0_51 : Nat) (σ_51 : XS) : Prop := ((xk σ_51 t0_51) = 1 ∧ ((xn σ_51 0) ≤ 100 ∧ ((∀ i, i < (xn σ_51 0) → (xk σ_51 (xe σ_51 0 i)) = 1) ∧ True)))
def f_X10_camera (σ : XS) (x : Nat) (nq : Nat) (p1 : Int32) (p2 : Int32) (p3 : Int32) : Except Nat (Int32 × XS) := (exb (f_X10_requireCell p1 p2) (fun v9_1 => (exb (f_X10_requireRange p3 (-99) 99) (fun v9_2 => (if (nI (xn σ 0)) < 10 then (f_X10_camera_51 σ x nq p1 p2 p3 nq ((f_X0_init (xNew σ 1 nq) nq p1 p2 p3).2)) else .error 2)))))
def of_X10_camera (σ : XS) (x : Nat) (nq : Nat) (p1 : Int32) (p2 : Int32) (p3 : Int32) : Prop := (exo (f_X10_requireCell p1 p2) (fun v9_1 => (exo (f_X10_requireRange p3 (-99) 99) (fun v9_2 => (oif ((nI (xn σ 0)) < 10) (of_X0_init (xNew σ 1 nq) nq p1 p2 p3 ∧ (of_X10_camera_51 σ x nq p1 p2 p3 nq ((f_X0_init (xNew σ 1 nq) nq p1 p2 p3).2))) True)))))
set_option maxHeartbeats 4000000 in
set_option maxRecDepth 100000 in
theorem k_X10_camera (l : Launch) (D : va_G) (a : Nat → ClassId) (x : Nat) (e0 : Nat) (A : Nat → Prop) (hfl : l.stackTraces = false) (σ : XS) (p1 : Int32) (p2 : Int32) (p3 : Int32) (hok : ∀ nq, xk σ nq = 0 → of_X10_camera σ x nq p1 p2 p3) : KTm l D a x e0 A yX10_camera cX10_camera 4 ((some .int)) 8 156 5 321 [.ref x, .int p1, .int p2, .int p3] σ (fun v => some (.int v)) (fun nq => f_X10_camera σ x nq p1 p2 p3) := by
  refine goUi hfl rfl (by decide +kernel) (Nat.le_of_ble_eq_true rfl) ?_
  intro p e s m args below meth c ls R Q nq hRf hRl hRc hRs hnq C hE hM hl ret thr out
  have hok := hok nq (by rw [hnq]; exact xP_fresh hM.1)
  have hl : lv_has ls 4 [(0, .ref x), (1, .int p1), (2, .int p2), (3, .int p3)] := hl
  have hx := C.1.1
  have hb := C.1.2.1
  have hts := C.1.2.2.2.2
  have hown := C.1.2.2.2.1
  have hf : (f_X10_camera σ x nq p1 p2 p3) = (f_X10_camera σ x nq p1 p2 p3) := rfl
  have J_51 : ∀ (t0_51 : Nat) (σ_51 : XS), (f_X10_camera σ x nq p1 p2 p3) = f_X10_camera_51 σ x nq p1 p2 p3 t0_51 σ_51 → of_X10_camera_51 σ x nq p1 p2 p3 t0_51 σ_51 → ∀ (H : Heap) (locs : List Loc) (ls : Array Slot), HX D a x e0 A σ_51 s.heap H locs → lv_has ls 4 [(0, .ref x)] → W p l e R s m args below meth c H locs 4 21 Q (F0 m 51 ls [.ref t0_51, .ref (x + 1)]) := by
    intro t0_51 σ_51 hf hok H locs ls hM hl
    have hk_6 := And.left hok
    have hok := And.right hok
    have ok_7 := And.left hok
    have hok := And.right hok
    have ok_8 := And.left hok
    have hok := And.right hok
    refine xl_add (j := 0) (K := 1) C hE hM (by decide) hk_6 (by decide) rfl cb_1 ok_7 ok_8 hRf hRl (Nat.le_of_ble_eq_true rfl) (Nat.le_of_ble_eq_true rfl) hl.1 (Nat.le_of_ble_eq_true rfl) (by rw [hRc]; exact Nat.le_of_ble_eq_true rfl) (by rw [hRs]; exact Nat.le_of_ble_eq_true rfl) dX10_camera_51 (fun H locs hM => ?_)
    refine lv_pop hx hb dX10_camera_56 rfl ?_
    refine lv_aload_n hx hb dX10_camera_57 rfl (lv_at hl 0 rfl) ?_
    refine xt_cameras C hM dX10_camera_58 ?_
    refine xl_size (j := 0) C hE hM (by decide) hRf hRl (Nat.le_of_ble_eq_true rfl) (Nat.le_of_ble_eq_true rfl) hl.1 (Nat.le_of_ble_eq_true rfl) (by rw [hRc]; exact Nat.le_of_ble_eq_true rfl) (by rw [hRs]; exact Nat.le_of_ble_eq_true rfl) dX10_camera_61 ?_
    refine lv_iconst (v := 1) hx hb dX10_camera_66 (by decide) ?_
    refine lv_isub hx hb dX10_camera_67 ?_
    exact ret _ _ _ _ _ _ hM dX10_camera_68 hf
  refine lv_iload_n hx hb dX10_camera_0 rfl (lv_at hl 1 rfl) ?_
  refine lv_iload_n hx hb dX10_camera_1 rfl (lv_at hl 2 rfl) ?_
  refine cc_TS (av := [.int p1, .int p2]) C (k_X10_requireCell l D a e0 A hfl p1 p2) cw_X10_77 (okR_of hRf hRl (Nat.le_of_ble_eq_true rfl) (Nat.le_of_ble_eq_true rfl)) (fun U g mk z q => be_blind g mk z q) (fun U hU hW => EV.at hE va_S.rf hW hU) rfl rfl hl.1 (Nat.le_of_ble_eq_true rfl) (by rw [hRc]; exact Nat.le_of_ble_eq_true rfl) (by rw [hRs]; exact Nat.le_of_ble_eq_true rfl) dX10_camera_2 (fun k9 E9 ce9 q9 H9 hF9 z1 z2 z3 z4 z5 z6 => out z1 z2 z3 z4 z5 z6 (Nat.le_of_ble_eq_true rfl) (Nat.le_of_ble_eq_true rfl) (hf.trans (exb_er hF9))) (fun v9_1 hv9_1 => ?_)
  have hf := hf.trans (exb_ok hv9_1)
  have hok := exo_ok hok hv9_1
  refine lv_iload_n hx hb dX10_camera_5 rfl (lv_at hl 3 rfl) ?_
  refine lv_bipush (v := (-99)) hx hb dX10_camera_6 (by decide) ?_
  refine lv_bipush (v := 99) hx hb dX10_camera_8 (by decide) ?_
  refine cc_TS (av := [.int p3, .int (-99), .int 99]) C (k_X10_requireRange l D a e0 A hfl p3 (-99) 99) cw_X10_81 (okR_of hRf hRl (Nat.le_of_ble_eq_true rfl) (Nat.le_of_ble_eq_true rfl)) (fun U g mk z q => be_blind g mk z q) (fun U hU hW => EV.at hE va_S.rf hW hU) rfl rfl hl.1 (Nat.le_of_ble_eq_true rfl) (by rw [hRc]; exact Nat.le_of_ble_eq_true rfl) (by rw [hRs]; exact Nat.le_of_ble_eq_true rfl) dX10_camera_10 (fun k9 E9 ce9 q9 H9 hF9 z1 z2 z3 z4 z5 z6 => out z1 z2 z3 z4 z5 z6 (Nat.le_of_ble_eq_true rfl) (Nat.le_of_ble_eq_true rfl) (hf.trans (exb_er hF9))) (fun v9_2 hv9_2 => ?_)
  have hf := hf.trans (exb_ok hv9_2)
  have hok := exo_ok hok hv9_2
  refine lv_aload_n hx hb dX10_camera_13 rfl (lv_at hl 0 rfl) ?_
  refine xt_cameras C hM dX10_camera_14 ?_
  refine xl_size (j := 0) C hE hM (by decide) hRf hRl (Nat.le_of_ble_eq_true rfl) (Nat.le_of_ble_eq_true rfl) hl.1 (Nat.le_of_ble_eq_true rfl) (by rw [hRc]; exact Nat.le_of_ble_eq_true rfl) (by rw [hRs]; exact Nat.le_of_ble_eq_true rfl) dX10_camera_17 ?_
  refine lv_bipush (v := 10) hx hb dX10_camera_22 (by decide) ?_
  refine lv_icmp_lt (tgt := 37) hx hb dX10_camera_24 (by decide) (fun c_3 => ?_) (fun c_3 => ?_)
  · have hf := hf.trans (if_pos c_3)
    have hok := oif_pos hok c_3
    refine lv_aload_n hx hb dX10_camera_37 rfl (lv_at hl 0 rfl) ?_
    refine xt_cameras C hM dX10_camera_38 ?_
    refine xnew_X10_96 C hE hM hnq (xP_pos hM.1) (by rw [hRc]; exact Nat.le_of_ble_eq_true rfl) (by rw [hRs]; exact Nat.le_of_ble_eq_true rfl) dX10_camera_41 (fun H locs hM => ?_)
    have hk_4 : (xk (xNew σ 1 nq) nq) = 1 := va_up_self _ _ _
    refine lv_dup hx hb dX10_camera_44 rfl ?_
    refine lv_iload_n hx hb dX10_camera_45 rfl (lv_at hl 1 rfl) ?_
    refine lv_iload_n hx hb dX10_camera_46 rfl (lv_at hl 2 rfl) ?_
    refine lv_iload_n hx hb dX10_camera_47 rfl (lv_at hl 3 rfl) ?_
    have ok_5 := And.left hok
    have hok := And.right hok
    refine cc_XI (av := [.int p1, .int p2, .int p3]) (b := nq) (N := 0) (Or.inr (fun _ => rfl)) C hE hM (k_X0_init l D a x e0 A (xNew σ 1 nq) nq p1 p2 p3 ok_5) cw_X10_98 (okR_of hRf hRl (Nat.le_of_ble_eq_true rfl) (Nat.le_of_ble_eq_true rfl)) rfl rfl hl.1 (Nat.le_of_ble_eq_true rfl) (by rw [hRc]; exact Nat.le_of_ble_eq_true rfl) (by rw [hRs]; exact Nat.le_of_ble_eq_true rfl) dX10_camera_48 (fun H locs hM => ?_)
    exact J_51 nq ((f_X0_init (xNew σ 1 nq) nq p1 p2 p3).2) hf hok _ _ ls hM (lv_sub hl [0] rfl)
  · have hf := hf.trans (if_neg c_3)
    have hok := oif_neg hok c_3
    obtain ⟨sa, hsr⟩ := hE.2.2.1 _ str_91
    exact thr (k := 2) thr_89 hsr (hl.1.trans C.1.2.2.1.symm) dX10_camera_27 dX10_camera_30 (Or.inl ⟨dX10_camera_31, dX10_camera_33, dX10_camera_36⟩) (by rw [hRf]; exact Nat.le_of_ble_eq_true rfl) (by rw [hRl]; exact Nat.le_of_ble_eq_true rfl) (Nat.le_of_ble_eq_true rfl) (Nat.le_of_ble_eq_true rfl) hf
def f_X10_existingCamera_17 (σ : XS) (x : Nat) (p1 : Int32) : Except Nat (Nat) := .error 3
def f_X10_existingCamera (σ : XS) (x : Nat) (p1 : Int32) : Except Nat (Nat) := (if p1 < 0 then (f_X10_existingCamera_17 σ x p1) else (if p1 < (nI (xn σ 0)) then .ok (xe σ 0 (ix p1)) else (f_X10_existingCamera_17 σ x p1)))
def of_X10_existingCamera (σ : XS) (x : Nat) (p1 : Int32) : Prop := (oif (p1 < 0) True (oif (p1 < (nI (xn σ 0))) (vp_in p1 (xn σ 0) ∧ ((xk σ (xe σ 0 (ix p1))) = 1 ∧ True)) True))
set_option maxHeartbeats 4000000 in
set_option maxRecDepth 100000 in
theorem k_X10_existingCamera (l : Launch) (D : va_G) (a : Nat → ClassId) (x : Nat) (e0 : Nat) (A : Nat → Prop) (hfl : l.stackTraces = false) (σ : XS) (p1 : Int32) (hok : of_X10_existingCamera σ x p1) : KT0 l yX10_existingCamera cX10_existingCamera 2 ((some (.object "FireNet$Camera"))) 6 92 1 6 [.ref x, .int p1] (BX D a x e0 A σ) (fun v => some (.ref v)) (f_X10_existingCamera σ x p1) := by
  refine goTa (D := D) (a := a) (e0 := e0) (A := A) (fun _ h => h.1) hfl rfl (by decide +kernel) (Nat.le_of_ble_eq_true rfl) ?_
  intro p e s m args below meth c ls R Q hRf hRl hRc hRs C hB hl ret thr out
  have hE := hB.1
  have hM : HX D a x e0 A σ s.heap s.heap [] := ⟨hB.2, va_S.rf⟩
  have hl : lv_has ls 2 [(0, .ref x), (1, .int p1)] := hl
  have hx := C.1.1
  have hb := C.1.2.1
  have hts := C.1.2.2.2.2
  have hown := C.1.2.2.2.1
  have hf : (f_X10_existingCamera σ x p1) = (f_X10_existingCamera σ x p1) := rfl
  have J_17 : (f_X10_existingCamera σ x p1) = f_X10_existingCamera_17 σ x p1 → ∀ (ls : Array Slot), lv_has ls 2 [] → W p l e R s m args below meth c s.heap [] 0 0 Q (F0 m 17 ls []) := by
    intro hf ls hl
    obtain ⟨sa, hsr⟩ := hE.2.2.1 _ str_360
    exact thr (k := 3) thr_358 hsr (hl.1.trans C.1.2.2.1.symm) dX10_existingCamera_17 dX10_existingCamera_20 (Or.inr ⟨dX10_existingCamera_21, dX10_existingCamera_24, dX10_existingCamera_27⟩) (by rw [hRf]; exact Nat.le_of_ble_eq_true rfl) (by rw [hRl]; exact Nat.le_of_ble_eq_true rfl) (Nat.le_of_ble_eq_true rfl) (Nat.le_of_ble_eq_true rfl) hf
  refine lv_iload_n hx hb dX10_existingCamera_0 rfl (lv_at hl 1 rfl) ?_
  refine lv_if_lt (tgt := 17) hx hb dX10_existingCamera_1 (by decide) (fun c_1 => ?_) (fun c_1 => ?_)
  · have hf := hf.trans (if_pos c_1)
    have hok := oif_pos hok c_1
    exact J_17 hf ls (lv_sub hl [] rfl)
  · have hf := hf.trans (if_neg c_1)
    have hok := oif_neg hok c_1
    refine lv_iload_n hx hb dX10_existingCamera_4 rfl (lv_at hl 1 rfl) ?_
    refine lv_aload_n hx hb dX10_existingCamera_5 rfl (lv_at hl 0 rfl) ?_
    refine xt_cameras C hM dX10_existingCamera_6 ?_
    refine xl_size (j := 0) C hE hM (by decide) hRf hRl (Nat.le_of_ble_eq_true rfl) (Nat.le_of_ble_eq_true rfl) hl.1 (Nat.le_of_ble_eq_true rfl) (by rw [hRc]; exact Nat.le_of_ble_eq_true rfl) (by rw [hRs]; exact Nat.le_of_ble_eq_true rfl) dX10_existingCamera_9 ?_
    refine lv_icmp_lt (tgt := 28) hx hb dX10_existingCamera_14 (by decide) (fun c_2 => ?_) (fun c_2 => ?_)
    · have hf := hf.trans (if_pos c_2)
      have hok := oif_pos hok c_2
      refine lv_aload_n hx hb dX10_existingCamera_28 rfl (lv_at hl 0 rfl) ?_
      refine xt_cameras C hM dX10_existingCamera_29 ?_
      refine lv_iload_n hx hb dX10_existingCamera_32 rfl (lv_at hl 1 rfl) ?_
      have ok_3 := And.left hok
      have hok := And.right hok
      refine xl_get (j := 0) C hE hM (by decide) ok_3 hRf hRl (Nat.le_of_ble_eq_true rfl) (Nat.le_of_ble_eq_true rfl) hl.1 (Nat.le_of_ble_eq_true rfl) (by rw [hRc]; exact Nat.le_of_ble_eq_true rfl) (by rw [hRs]; exact Nat.le_of_ble_eq_true rfl) dX10_existingCamera_33 ?_
      have hk_4 := And.left hok
      have hok := And.right hok
      refine xcast (K := 1) C (xat_1 hM hk_4) rfl q_383 dX10_existingCamera_38 ?_
      refine W.widen (k := 1) (n := 6) (Nat.le_of_ble_eq_true rfl) (Nat.le_of_ble_eq_true rfl) ?_
      exact ret _ _ _ dX10_existingCamera_41 hf
    · have hf := hf.trans (if_neg c_2)
      have hok := oif_neg hok c_2
      exact J_17 hf ls (lv_sub hl [] rfl)
def f_X10_doJoin_29 (σ : XS) (x : Nat) (p1 : Nat) (p2 : Nat) (t0_29 : Int32) (σ_29 : XS) : Int32 × XS := (if t0_29 = 0 then (0, σ_29) else (1, σ_29))
def f_X10_doJoin_17 (σ : XS) (x : Nat) (p1 : Nat) (p2 : Nat) (t0_17 : Int32) (σ_17 : XS) : Int32 × XS := (if t0_17 = 0 then (0, σ_17) else (f_X10_doJoin_29 σ x p1 p2 ((f_X2_isOfEnds σ_17 (x + 6) p1 p2).1) ((f_X2_isOfEnds σ_17 (x + 6) p1 p2).2)))
def of_X10_doJoin_17 (σ : XS) (x : Nat) (p1 : Nat) (p2 : Nat) (t0_17 : Int32) (σ_17 : XS) : Prop := (oif (t0_17 = 0) True (of_X2_isOfEnds σ_17 (x + 6) p1 p2 ∧ ((xk σ_17 (x + 6)) = 3 ∧ True)))
def f_X10_doJoin (σ : XS) (x : Nat) (p1 : Nat) (p2 : Nat) : Int32 × XS := (if (f_X6_mayJoin σ p1 p2) = 0 then (0, σ) else (f_X10_doJoin_17 σ x p1 p2 ((f_X2_isOfBegins σ (x + 5) p1 p2).1) ((f_X2_isOfBegins σ (x + 5) p1 p2).2)))
def of_X10_doJoin (σ : XS) (x : Nat) (p1 : Nat) (p2 : Nat) : Prop := (of_X6_mayJoin σ p1 p2 ∧ ((xk σ p1) = 7 ∧ (oif ((f_X6_mayJoin σ p1 p2) = 0) True (of_X2_isOfBegins σ (x + 5) p1 p2 ∧ ((xk σ (x + 5)) = 3 ∧ (of_X10_doJoin_17 σ x p1 p2 ((f_X2_isOfBegins σ (x + 5) p1 p2).1) ((f_X2_isOfBegins σ (x + 5) p1 p2).2)))))))
set_option maxHeartbeats 4000000 in
set_option maxRecDepth 100000 in
theorem k_X10_doJoin (l : Launch) (D : va_G) (a : Nat → ClassId) (x : Nat) (e0 : Nat) (A : Nat → Prop) (σ : XS) (p1 : Nat) (p2 : Nat) (hok : of_X10_doJoin σ x p1 p2) : KX l D a x e0 A yX10_doJoin cX10_doJoin 3 ((some .boolean)) 3 83 0 0 [.ref x, .ref p1, .ref p2] σ (fun v => some (.int v)) (fun _ => f_X10_doJoin σ x p1 p2) := by
  refine goXz (by decide +kernel) (Nat.le_of_ble_eq_true rfl) ?_
  intro p e s m args below meth c ls R Q nq hRf hRl hRc hRs hnq C hE hM hl ret
  have hl : lv_has ls 3 [(0, .ref x), (1, .ref p1), (2, .ref p2)] := hl
  have hx := C.1.1
  have hb := C.1.2.1
  have hts := C.1.2.2.2.2
  have hown := C.1.2.2.2.1
  have hf : (f_X10_doJoin σ x p1 p2) = (f_X10_doJoin σ x p1 p2) := rfl
  have J_29 : ∀ (t0_29 : Int32) (σ_29 : XS), (f_X10_doJoin σ x p1 p2) = f_X10_doJoin_29 σ x p1 p2 t0_29 σ_29 → ∀ (H : Heap) (locs : List Loc) (ls : Array Slot), HX D a x e0 A σ_29 s.heap H locs → lv_has ls 3 [] → W p l e R s m args below meth c H locs 0 0 Q (F0 m 29 ls [.int t0_29]) := by
    intro t0_29 σ_29 hf H locs ls hM hl
    refine lv_if_eq (tgt := 36) hx hb dX10_doJoin_29 (by decide) (fun c_9 => ?_) (fun c_9 => ?_)
    · have hf := hf.trans (if_pos c_9)
      refine lv_iconst (v := 0) hx hb dX10_doJoin_36 (by decide) ?_
      exact ret _ _ _ _ _ _ hM dX10_doJoin_37 (by unfold zb; decide) hf
    · have hf := hf.trans (if_neg c_9)
      refine lv_iconst (v := 1) hx hb dX10_doJoin_32 (by decide) ?_
      refine lv_goto (tgt := 37) hx hb dX10_doJoin_33 (by decide) ?_
      exact ret _ _ _ _ _ _ hM dX10_doJoin_37 (by unfold zb; decide) hf
  have J_17 : ∀ (t0_17 : Int32) (σ_17 : XS), (f_X10_doJoin σ x p1 p2) = f_X10_doJoin_17 σ x p1 p2 t0_17 σ_17 → of_X10_doJoin_17 σ x p1 p2 t0_17 σ_17 → ∀ (H : Heap) (locs : List Loc) (ls : Array Slot), HX D a x e0 A σ_17 s.heap H locs → lv_has ls 3 [(0, .ref x), (1, .ref p1), (2, .ref p2)] → W p l e R s m args below meth c H locs 0 0 Q (F0 m 17 ls [.int t0_17]) := by
    intro t0_17 σ_17 hf hok H locs ls hM hl
    refine lv_if_eq (tgt := 36) hx hb dX10_doJoin_17 (by decide) (fun c_6 => ?_) (fun c_6 => ?_)
    · have hf := hf.trans (if_pos c_6)
      have hok := oif_pos hok c_6
      refine lv_iconst (v := 0) hx hb dX10_doJoin_36 (by decide) ?_
      exact ret _ _ _ _ _ _ hM dX10_doJoin_37 (by unfold zb; decide) hf
    · have hf := hf.trans (if_neg c_6)
      have hok := oif_neg hok c_6
      refine lv_aload_n hx hb dX10_doJoin_20 rfl (lv_at hl 0 rfl) ?_
      refine xt_ends C hM dX10_doJoin_21 ?_
      refine lv_aload_n hx hb dX10_doJoin_24 rfl (lv_at hl 1 rfl) ?_
      refine lv_aload_n hx hb dX10_doJoin_25 rfl (lv_at hl 2 rfl) ?_
      have ok_7 := And.left hok
      have hok := And.right hok
      have hk_8 := And.left hok
      have hok := And.right hok
      refine cc_XM (av := [.ref p1, .ref p2]) (b := (x + 6)) (N := 0) (Or.inr (fun _ => rfl)) C hE hM (k_X2_isOfEnds l D a x e0 A σ_17 (x + 6) p1 p2 ok_7) cw_X10_395 (okR_of hRf hRl (Nat.le_of_ble_eq_true rfl) (Nat.le_of_ble_eq_true rfl)) (xr_at (K := 3) C hM hk_8 (by decide) rfl) rfl rfl hl.1 (Nat.le_of_ble_eq_true rfl) (Nat.zero_le _) (Nat.zero_le _) dX10_doJoin_26 (fun H locs hM => ?_)
      exact J_29 ((f_X2_isOfEnds σ_17 (x + 6) p1 p2).1) ((f_X2_isOfEnds σ_17 (x + 6) p1 p2).2) hf _ _ ls hM (lv_sub hl [] rfl)
  refine lv_aload_n hx hb dX10_doJoin_0 rfl (lv_at hl 1 rfl) ?_
  refine lv_aload_n hx hb dX10_doJoin_1 rfl (lv_at hl 2 rfl) ?_
  have ok_1 := And.left hok
  have hok := And.right hok
  have hk_2 := And.left hok
  have hok := And.right hok
  refine cc_X (av := [.ref p2]) (b := p1) C hE hM (k_X6_mayJoin l D a x e0 A σ p1 p2 ok_1) cw_X10_388 (okR_of hRf hRl (Nat.le_of_ble_eq_true rfl) (Nat.le_of_ble_eq_true rfl)) (xr_at (K := 7) C hM hk_2 (by decide) rfl) rfl rfl hl.1 (Nat.le_of_ble_eq_true rfl) (Nat.zero_le _) (Nat.zero_le _) dX10_doJoin_2 ?_
  refine lv_if_eq (tgt := 36) hx hb dX10_doJoin_5 (by decide) (fun c_3 => ?_) (fun c_3 => ?_)
  · have hf := hf.trans (if_pos c_3)
    have hok := oif_pos hok c_3
    refine lv_iconst (v := 0) hx hb dX10_doJoin_36 (by decide) ?_
    exact ret _ _ _ _ _ _ hM dX10_doJoin_37 (by unfold zb; decide) hf
  · have hf := hf.trans (if_neg c_3)
    have hok := oif_neg hok c_3
    refine lv_aload_n hx hb dX10_doJoin_8 rfl (lv_at hl 0 rfl) ?_
    refine xt_begins C hM dX10_doJoin_9 ?_
    refine lv_aload_n hx hb dX10_doJoin_12 rfl (lv_at hl 1 rfl) ?_
    refine lv_aload_n hx hb dX10_doJoin_13 rfl (lv_at hl 2 rfl) ?_
    have ok_4 := And.left hok
    have hok := And.right hok
    have hk_5 := And.left hok
    have hok := And.right hok
    refine cc_XM (av := [.ref p1, .ref p2]) (b := (x + 5)) (N := 0) (Or.inr (fun _ => rfl)) C hE hM (k_X2_isOfBegins l D a x e0 A σ (x + 5) p1 p2 ok_4) cw_X10_392 (okR_of hRf hRl (Nat.le_of_ble_eq_true rfl) (Nat.le_of_ble_eq_true rfl)) (xr_at (K := 3) C hM hk_5 (by decide) rfl) rfl rfl hl.1 (Nat.le_of_ble_eq_true rfl) (Nat.zero_le _) (Nat.zero_le _) dX10_doJoin_14 (fun H locs hM => ?_)
    exact J_17 ((f_X2_isOfBegins σ (x + 5) p1 p2).1) ((f_X2_isOfBegins σ (x + 5) p1 p2).2) hf hok _ _ ls hM (lv_sub hl [0, 1, 2] rfl)
def f_X10_joinSightings_l41_96 (x : Nat) (v1_41 : Int32) (v2_41 : Nat) (w3_41 : Int32) (σw_41 : XS) (v3_96 : Int32) (σ_96 : XS) : Bool × (Int32 × XS) := (true, ((v3_96 + 1), σ_96))
def f_X10_joinSightings_l41_68 (x : Nat) (v1_41 : Int32) (v2_41 : Nat) (w3_41 : Int32) (σw_41 : XS) (v3_68 : Int32) (v4_68 : Nat) (t0_68 : Int32) (σ_68 : XS) : Bool × (Int32 × XS) := (if t0_68 = 0 then (f_X10_joinSightings_l41_96 x v1_41 v2_41 w3_41 σw_41 v3_68 σ_68) else (f_X10_joinSightings_l41_96 x v1_41 v2_41 w3_41 σw_41 v3_68 (xJ (xJ σ_68 149 v2_41 ((xj σ_68 149 v2_41) ||| ((1 : Int64) <<< (v3_68.toInt64 &&& 63)))) 149 v4_68 ((xj (xJ σ_68 149 v2_41 ((xj σ_68 149 v2_41) ||| ((1 : Int64) <<< (v3_68.toInt64 &&& 63)))) 149 v4_68) ||| ((1 : Int64) <<< (v1_41.toInt64 &&& 63))))))
def of_X10_joinSightings_l41_68 (x : Nat) (v1_41 : Int32) (v2_41 : Nat) (w3_41 : Int32) (σw_41 : XS) (v3_68 : Int32) (v4_68 : Nat) (t0_68 : Int32) (σ_68 : XS) : Prop := (oif (t0_68 = 0) True ((xk σ_68 v2_41) = 7 ∧ ((xk σ_68 v4_68) = 7 ∧ True)))
def b_X10_joinSightings_41 (x : Nat) (v1_41 : Int32) (v2_41 : Nat) (w3_41 : Int32) (σw_41 : XS) : Bool × (Int32 × XS) := (if v1_41 ≤ w3_41 then (false, (w3_41, σw_41)) else (f_X10_joinSightings_l41_68 x v1_41 v2_41 w3_41 σw_41 w3_41 (xe σw_41 2 (ix w3_41)) ((f_X10_doJoin σw_41 x v2_41 (xe σw_41 2 (ix w3_41))).1) ((f_X10_doJoin σw_41 x v2_41 (xe σw_41 2 (ix w3_41))).2)))
def ob_X10_joinSightings_41 (x : Nat) (v1_41 : Int32) (v2_41 : Nat) (w3_41 : Int32) (σw_41 : XS) : Prop := (oif (v1_41 ≤ w3_41) True (vp_in w3_41 (xn σw_41 2) ∧ ((xk σw_41 (xe σw_41 2 (ix w3_41))) = 7 ∧ (of_X10_doJoin σw_41 x v2_41 (xe σw_41 2 (ix w3_41)) ∧ (of_X10_joinSightings_l41_68 x v1_41 v2_41 w3_41 σw_41 w3_41 (xe σw_41 2 (ix w3_41)) ((f_X10_doJoin σw_41 x v2_41 (xe σw_41 2 (ix w3_41))).1) ((f_X10_doJoin σw_41 x v2_41 (xe σw_41 2 (ix w3_41))).2))))))
def s_X10_joinSightings_41 (x : Nat) (v1_41 : Int32) (v2_41 : Nat) (v : Int32 × XS) : Bool × (Int32 × XS) := b_X10_joinSightings_41 x v1_41 v2_41 v.1 v.2
def os_X10_joinSightings_41 (x : Nat) (v1_41 : Int32) (v2_41 : Nat) (v : Int32 × XS) : Prop := ob_X10_joinSightings_41 x v1_41 v2_41 v.1 v.2
def f_X10_joinSightings_l2_102 (x : Nat) (w1_2 : Int32) (σw_2 : XS) (v1_102 : Int32) (σ_102 : XS) : Bool × (Int32 × XS) := (true, ((v1_102 + 1), σ_102))
def f_X10_joinSightings_l2_41 (x : Nat) (w1_2 : Int32) (σw_2 : XS) (v1_41 : Int32) (v2_41 : Nat) (v3_41 : Int32) (σ_41 : XS) : Bool × (Int32 × XS) := (f_X10_joinSightings_l2_102 x w1_2 σw_2 v1_41 ((itr (s_X10_joinSightings_41 x v1_41 v2_41) FU (v3_41, σ_41)).2))
def of_X10_joinSightings_l2_41 (x : Nat) (w1_2 : Int32) (σw_2 : XS) (v1_41 : Int32) (v2_41 : Nat) (v3_41 : Int32) (σ_41 : XS) : Prop := (ito (s_X10_joinSightings_41 x v1_41 v2_41) (os_X10_joinSightings_41 x v1_41 v2_41) FU (v3_41, σ_41) ∧ True)
def b_X10_joinSightings_2 (x : Nat) (w1_2 : Int32) (σw_2 : XS) : Bool × (Int32 × XS) := (if (nI (xn σw_2 2)) ≤ w1_2 then (false, (w1_2, σw_2)) else (f_X10_joinSightings_l2_41 x w1_2 σw_2 w1_2 (xe σw_2 2 (ix w1_2)) 0 (xI (xJ σw_2 149 (xe σw_2 2 (ix w1_2)) 0) 150 (xe σw_2 2 (ix w1_2)) (-1))))
def ob_X10_joinSightings_2 (x : Nat) (w1_2 : Int32) (σw_2 : XS) : Prop := (oif ((nI (xn σw_2 2)) ≤ w1_2) True (vp_in w1_2 (xn σw_2 2) ∧ ((xk σw_2 (xe σw_2 2 (ix w1_2))) = 7 ∧ (of_X10_joinSightings_l2_41 x w1_2 σw_2 w1_2 (xe σw_2 2 (ix w1_2)) 0 (xI (xJ σw_2 149 (xe σw_2 2 (ix w1_2)) 0) 150 (xe σw_2 2 (ix w1_2)) (-1))))))
def s_X10_joinSightings_2 (x : Nat) (v : Int32 × XS) : Bool × (Int32 × XS) := b_X10_joinSightings_2 x v.1 v.2
def os_X10_joinSightings_2 (x : Nat) (v : Int32 × XS) : Prop := ob_X10_joinSightings_2 x v.1 v.2
def f_X10_joinSightings_108 (σ : XS) (x : Nat) (σ_108 : XS) : Unit × XS := ((), σ_108)
def f_X10_joinSightings_2 (σ : XS) (x : Nat) (v1_2 : Int32) (σ_2 : XS) : Unit × XS := (f_X10_joinSightings_108 σ x ((itr (s_X10_joinSightings_2 x) FU (v1_2, σ_2)).2))
def of_X10_joinSightings_2 (σ : XS) (x : Nat) (v1_2 : Int32) (σ_2 : XS) : Prop := (ito (s_X10_joinSightings_2 x) (os_X10_joinSightings_2 x) FU (v1_2, σ_2) ∧ True)
def f_X10_joinSightings (σ : XS) (x : Nat) : Unit × XS := (f_X10_joinSightings_2 σ x 0 σ)
def of_X10_joinSightings (σ : XS) (x : Nat) : Prop := (of_X10_joinSightings_2 σ x 0 σ)
set_option maxHeartbeats 4000000 in
set_option maxRecDepth 100000 in
theorem k_X10_joinSightings (l : Launch) (D : va_G) (a : Nat → ClassId) (x : Nat) (e0 : Nat) (A : Nat → Prop) (σ : XS) (hok : of_X10_joinSightings σ x) : KX l D a x e0 A yX10_joinSightings cX10_joinSightings 5 none 4 105 0 0 [.ref x] σ (fun _ => none) (fun _ => f_X10_joinSightings σ x) := by
  refine goXv (by decide +kernel) (Nat.le_of_ble_eq_true rfl) ?_
  intro p e s m args below meth c ls R Q nq hRf hRl hRc hRs hnq C hE hM hl hmn ret
  have hl : lv_has ls 5 [(0, .ref x)] := hl
  have hx := C.1.1
  have hb := C.1.2.1
  have hts := C.1.2.2.2.2
  have hown := C.1.2.2.2.1
  have hf : (f_X10_joinSightings σ x) = (f_X10_joinSightings σ x) := rfl
  have J_108 : ∀ (σ_108 : XS), (f_X10_joinSightings σ x) = f_X10_joinSightings_108 σ x σ_108 → ∀ (H : Heap) (locs : List Loc) (ls : Array Slot), HX D a x e0 A σ_108 s.heap H locs → lv_has ls 5 [] → W p l e R s m args below meth c H locs 0 0 Q (F0 m 108 ls []) := by
    intro σ_108 hf H locs ls hM hl
    exact ret _ _ _ _ _ hM dX10_joinSightings_108 hf
  have J_2 : ∀ (v1_2 : Int32) (σ_2 : XS), (f_X10_joinSightings σ x) = f_X10_joinSightings_2 σ x v1_2 σ_2 → of_X10_joinSightings_2 σ x v1_2 σ_2 → ∀ (H : Heap) (locs : List Loc) (ls : Array Slot), HX D a x e0 A σ_2 s.heap H locs → lv_has ls 5 [(0, .ref x), (1, .int v1_2)] → W p l e R s m args below meth c H locs 0 0 Q (F0 m 2 ls []) := by
    intro v1_2 σ_2 hf hok H locs ls hM hl
    refine itr_W (f := (s_X10_joinSightings_2 x)) (o := (os_X10_joinSightings_2 x)) (fun (v : Int32 × XS) => ∀ (H : Heap) (locs : List Loc) (ls : Array Slot), HX D a x e0 A v.2 s.heap H locs → lv_has ls 5 [(0, .ref x), (1, .int v.1)] → W p l e R s m args below meth c H locs 0 0 Q (F0 m 2 ls [])) (fun (v : Int32 × XS) => ∀ (H : Heap) (locs : List Loc) (ls : Array Slot), HX D a x e0 A v.2 s.heap H locs → lv_has ls 5 [] → W p l e R s m args below meth c H locs 0 0 Q (F0 m 108 ls [])) ?_ FU (v1_2, σ_2) (And.left hok) ?_ _ _ ls hM (lv_sub hl [0, 1] rfl)
    · intro v hov kc ke
      obtain ⟨w1_2, σw_2⟩ := v
      have hok : ob_X10_joinSightings_2 x w1_2 σw_2 := hov
      change ∀ v', (b_X10_joinSightings_2 x w1_2 σw_2) = (true, v') → _ at kc
      change ∀ v', (b_X10_joinSightings_2 x w1_2 σw_2) = (false, v') → _ at ke
      have hf : (b_X10_joinSightings_2 x w1_2 σw_2) = (b_X10_joinSightings_2 x w1_2 σw_2) := rfl
      intro H locs ls hM hl
      have J_l2_102 : ∀ (v1_102 : Int32) (σ_102 : XS), (b_X10_joinSightings_2 x w1_2 σw_2) = f_X10_joinSightings_l2_102 x w1_2 σw_2 v1_102 σ_102 → ∀ (H : Heap) (locs : List Loc) (ls : Array Slot), HX D a x e0 A σ_102 s.heap H locs → lv_has ls 5 [(0, .ref x), (1, .int v1_102)] → W p l e R s m args below meth c H locs 0 0 Q (F0 m 102 ls []) := by
        intro v1_102 σ_102 hf H locs ls hM hl
        refine lv_iinc (v := (v1_102 + 1)) (lv' := [(1, .int (v1_102 + 1)), (0, .ref x)]) hx hb dX10_joinSightings_102 hl (k := 1) rfl rfl (by decide) rfl (fun ls hl => ?_)
        refine lv_goto (tgt := 2) hx hb dX10_joinSightings_105 (by decide) ?_
        exact kc ((v1_102 + 1), σ_102) hf H locs ls hM (lv_sub hl [1, 0] rfl)
      have J_l2_41 : ∀ (v1_41 : Int32) (v2_41 : Nat) (v3_41 : Int32) (σ_41 : XS), (b_X10_joinSightings_2 x w1_2 σw_2) = f_X10_joinSightings_l2_41 x w1_2 σw_2 v1_41 v2_41 v3_41 σ_41 → of_X10_joinSightings_l2_41 x w1_2 σw_2 v1_41 v2_41 v3_41 σ_41 → ∀ (H : Heap) (locs : List Loc) (ls : Array Slot), HX D a x e0 A σ_41 s.heap H locs → lv_has ls 5 [(0, .ref x), (1, .int v1_41), (2, .ref v2_41), (3, .int v3_41)] → W p l e R s m args below meth c H locs 0 0 Q (F0 m 41 ls []) := by
        intro v1_41 v2_41 v3_41 σ_41 hf hok H locs ls hM hl
        refine itr_W (f := (s_X10_joinSightings_41 x v1_41 v2_41)) (o := (os_X10_joinSightings_41 x v1_41 v2_41)) (fun (v : Int32 × XS) => ∀ (H : Heap) (locs : List Loc) (ls : Array Slot), HX D a x e0 A v.2 s.heap H locs → lv_has ls 5 [(0, .ref x), (1, .int v1_41), (2, .ref v2_41), (3, .int v.1)] → W p l e R s m args below meth c H locs 0 0 Q (F0 m 41 ls [])) (fun (v : Int32 × XS) => ∀ (H : Heap) (locs : List Loc) (ls : Array Slot), HX D a x e0 A v.2 s.heap H locs → lv_has ls 5 [(0, .ref x), (1, .int v1_41)] → W p l e R s m args below meth c H locs 0 0 Q (F0 m 102 ls [])) ?_ FU (v3_41, σ_41) (And.left hok) ?_ _ _ ls hM (lv_sub hl [0, 1, 2, 3] rfl)
        · intro v hov kc ke
          obtain ⟨w3_41, σw_41⟩ := v
          have hok : ob_X10_joinSightings_41 x v1_41 v2_41 w3_41 σw_41 := hov
          change ∀ v', (b_X10_joinSightings_41 x v1_41 v2_41 w3_41 σw_41) = (true, v') → _ at kc
          change ∀ v', (b_X10_joinSightings_41 x v1_41 v2_41 w3_41 σw_41) = (false, v') → _ at ke
          have hf : (b_X10_joinSightings_41 x v1_41 v2_41 w3_41 σw_41) = (b_X10_joinSightings_41 x v1_41 v2_41 w3_41 σw_41) := rfl
          intro H locs ls hM hl
          have J_l41_96 : ∀ (v3_96 : Int32) (σ_96 : XS), (b_X10_joinSightings_41 x v1_41 v2_41 w3_41 σw_41) = f_X10_joinSightings_l41_96 x v1_41 v2_41 w3_41 σw_41 v3_96 σ_96 → ∀ (H : Heap) (locs : List Loc) (ls : Array Slot), HX D a x e0 A σ_96 s.heap H locs → lv_has ls 5 [(0, .ref x), (1, .int v1_41), (2, .ref v2_41), (3, .int v3_96)] → W p l e R s m args below meth c H locs 0 0 Q (F0 m 96 ls []) := by
            intro v3_96 σ_96 hf H locs ls hM hl
            refine lv_iinc (v := (v3_96 + 1)) (lv' := [(3, .int (v3_96 + 1)), (0, .ref x), (1, .int v1_41), (2, .ref v2_41)]) hx hb dX10_joinSightings_96 hl (k := 3) rfl rfl (by decide) rfl (fun ls hl => ?_)
            refine lv_goto (tgt := 41) hx hb dX10_joinSightings_99 (by decide) ?_
            exact kc ((v3_96 + 1), σ_96) hf H locs ls hM (lv_sub hl [1, 2, 3, 0] rfl)
          have J_l41_68 : ∀ (v3_68 : Int32) (v4_68 : Nat) (t0_68 : Int32) (σ_68 : XS), (b_X10_joinSightings_41 x v1_41 v2_41 w3_41 σw_41) = f_X10_joinSightings_l41_68 x v1_41 v2_41 w3_41 σw_41 v3_68 v4_68 t0_68 σ_68 → of_X10_joinSightings_l41_68 x v1_41 v2_41 w3_41 σw_41 v3_68 v4_68 t0_68 σ_68 → ∀ (H : Heap) (locs : List Loc) (ls : Array Slot), HX D a x e0 A σ_68 s.heap H locs → lv_has ls 5 [(0, .ref x), (1, .int v1_41), (2, .ref v2_41), (3, .int v3_68), (4, .ref v4_68)] → W p l e R s m args below meth c H locs 0 0 Q (F0 m 68 ls [.int t0_68]) := by
            intro v3_68 v4_68 t0_68 σ_68 hf hok H locs ls hM hl
            refine lv_if_eq (tgt := 96) hx hb dX10_joinSightings_68 (by decide) (fun c_8 => ?_) (fun c_8 => ?_)
            · have hf := hf.trans (if_pos c_8)
              have hok := oif_pos hok c_8
              exact J_l41_96 v3_68 σ_68 hf _ _ ls hM (lv_sub hl [0, 1, 2, 3] rfl)
            · have hf := hf.trans (if_neg c_8)
              have hok := oif_neg hok c_8
              refine lv_aload_n hx hb dX10_joinSightings_71 rfl (lv_at hl 2 rfl) ?_
              refine lv_dup hx hb dX10_joinSightings_72 rfl ?_
              have hk_9 := And.left hok
              have hok := And.right hok
              refine xg_X10_180 C hM hk_9 dX10_joinSightings_73 ?_
              refine lv_lconst (v := 1) hx hb dX10_joinSightings_76 (by decide) ?_
              refine lv_iload_n hx hb dX10_joinSightings_77 rfl (lv_at hl 3 rfl) ?_
              refine lv_lshl (v := ((1 : Int64) <<< (v3_68.toInt64 &&& 63))) hx hb dX10_joinSightings_78 rfl ?_
              refine lv_lor hx hb dX10_joinSightings_79 ?_
              refine xp_X10_180 C hM hk_9 dX10_joinSightings_80 (fun H locs hM => ?_)
              refine lv_aload hx hb dX10_joinSightings_83 (lv_at hl 4 rfl) ?_
              refine lv_dup hx hb dX10_joinSightings_85 rfl ?_
              have hk_10 := And.left hok
              have hok := And.right hok
              refine xg_X10_180 C hM hk_10 dX10_joinSightings_86 ?_
              refine lv_lconst (v := 1) hx hb dX10_joinSightings_89 (by decide) ?_
              refine lv_iload_n hx hb dX10_joinSightings_90 rfl (lv_at hl 1 rfl) ?_
              refine lv_lshl (v := ((1 : Int64) <<< (v1_41.toInt64 &&& 63))) hx hb dX10_joinSightings_91 rfl ?_
              refine lv_lor hx hb dX10_joinSightings_92 ?_
              refine xp_X10_180 C hM hk_10 dX10_joinSightings_93 (fun H locs hM => ?_)
              exact J_l41_96 v3_68 (xJ (xJ σ_68 149 v2_41 ((xj σ_68 149 v2_41) ||| ((1 : Int64) <<< (v3_68.toInt64 &&& 63)))) 149 v4_68 ((xj (xJ σ_68 149 v2_41 ((xj σ_68 149 v2_41) ||| ((1 : Int64) <<< (v3_68.toInt64 &&& 63)))) 149 v4_68) ||| ((1 : Int64) <<< (v1_41.toInt64 &&& 63)))) hf _ _ ls hM (lv_sub hl [0, 1, 2, 3] rfl)
          refine lv_iload_n hx hb dX10_joinSightings_41 rfl (lv_at hl 3 rfl) ?_
          refine lv_iload_n hx hb dX10_joinSightings_42 rfl (lv_at hl 1 rfl) ?_
          refine lv_icmp_ge (tgt := 102) hx hb dX10_joinSightings_43 (by decide) (fun c_4 => ?_) (fun c_4 => ?_)
          · have hf := hf.trans (if_pos c_4)
            have hok := oif_pos hok c_4
            exact ke (w3_41, σw_41) hf H locs ls hM (lv_sub hl [0, 1] rfl)
          · have hf := hf.trans (if_neg c_4)
            have hok := oif_neg hok c_4
            refine lv_aload_n hx hb dX10_joinSightings_46 rfl (lv_at hl 0 rfl) ?_
            refine xt_sightings C hM dX10_joinSightings_47 ?_
            refine lv_iload_n hx hb dX10_joinSightings_50 rfl (lv_at hl 3 rfl) ?_
            have ok_5 := And.left hok
            have hok := And.right hok
            refine xl_get (j := 2) C hE hM (by decide) ok_5 hRf hRl (Nat.le_of_ble_eq_true rfl) (Nat.le_of_ble_eq_true rfl) hl.1 (Nat.le_of_ble_eq_true rfl) (Nat.zero_le _) (Nat.zero_le _) dX10_joinSightings_51 ?_
            have hk_6 := And.left hok
            have hok := And.right hok
            refine xcast (K := 7) C (xat_7 hM hk_6) rfl q_458 dX10_joinSightings_56 ?_
            refine lv_astore (lv' := [(4, .ref (xe σw_41 2 (ix w3_41))), (0, .ref x), (1, .int v1_41), (2, .ref v2_41), (3, .int w3_41)]) hx hb dX10_joinSightings_59 hl (by decide) rfl (fun ls hl => ?_)
            refine lv_aload_n hx hb dX10_joinSightings_61 rfl (lv_at hl 1 rfl) ?_
            refine lv_aload_n hx hb dX10_joinSightings_62 rfl (lv_at hl 3 rfl) ?_
            refine lv_aload hx hb dX10_joinSightings_63 (lv_at hl 0 rfl) ?_
            have ok_7 := And.left hok
            have hok := And.right hok
            refine cc_XM (av := [.ref v2_41, .ref (xe σw_41 2 (ix w3_41))]) (b := x) (N := 0) (Or.inr (fun _ => rfl)) C hE hM (k_X10_doJoin l D a x e0 A σw_41 v2_41 (xe σw_41 2 (ix w3_41)) ok_7) cw_X10_384 (okR_of hRf hRl (Nat.le_of_ble_eq_true rfl) (Nat.le_of_ble_eq_true rfl)) (xr_net C hM) rfl rfl hl.1 (Nat.le_of_ble_eq_true rfl) (Nat.zero_le _) (Nat.zero_le _) dX10_joinSightings_65 (fun H locs hM => ?_)
            exact J_l41_68 w3_41 (xe σw_41 2 (ix w3_41)) ((f_X10_doJoin σw_41 x v2_41 (xe σw_41 2 (ix w3_41))).1) ((f_X10_doJoin σw_41 x v2_41 (xe σw_41 2 (ix w3_41))).2) hf hok _ _ ls hM (lv_sub hl [1, 2, 3, 4, 0] rfl)
        · have hok := And.right hok
          intro H locs ls hM hl
          exact J_l2_102 v1_41 ((itr (s_X10_joinSightings_41 x v1_41 v2_41) FU (v3_41, σ_41)).2) hf _ _ ls hM (lv_sub hl [0, 1] rfl)
      refine lv_iload_n hx hb dX10_joinSightings_2 rfl (lv_at hl 1 rfl) ?_
      refine lv_aload_n hx hb dX10_joinSightings_3 rfl (lv_at hl 0 rfl) ?_
      refine xt_sightings C hM dX10_joinSightings_4 ?_
      refine xl_size (j := 2) C hE hM (by decide) hRf hRl (Nat.le_of_ble_eq_true rfl) (Nat.le_of_ble_eq_true rfl) hl.1 (Nat.le_of_ble_eq_true rfl) (Nat.zero_le _) (Nat.zero_le _) dX10_joinSightings_7 ?_
      refine lv_icmp_ge (tgt := 108) hx hb dX10_joinSightings_12 (by decide) (fun c_1 => ?_) (fun c_1 => ?_)
      · have hf := hf.trans (if_pos c_1)
        have hok := oif_pos hok c_1
        exact ke (w1_2, σw_2) hf H locs ls hM (lv_sub hl [] rfl)
      · have hf := hf.trans (if_neg c_1)
        have hok := oif_neg hok c_1
        refine lv_aload_n hx hb dX10_joinSightings_15 rfl (lv_at hl 0 rfl) ?_
        refine xt_sightings C hM dX10_joinSightings_16 ?_
        refine lv_iload_n hx hb dX10_joinSightings_19 rfl (lv_at hl 1 rfl) ?_
        have ok_2 := And.left hok
        have hok := And.right hok
        refine xl_get (j := 2) C hE hM (by decide) ok_2 hRf hRl (Nat.le_of_ble_eq_true rfl) (Nat.le_of_ble_eq_true rfl) hl.1 (Nat.le_of_ble_eq_true rfl) (Nat.zero_le _) (Nat.zero_le _) dX10_joinSightings_20 ?_
        have hk_3 := And.left hok
        have hok := And.right hok
        refine xcast (K := 7) C (xat_7 hM hk_3) rfl q_458 dX10_joinSightings_25 ?_
        refine lv_astore_n (lv' := [(2, .ref (xe σw_2 2 (ix w1_2))), (0, .ref x), (1, .int w1_2)]) hx hb dX10_joinSightings_28 rfl hl (by decide) rfl (fun ls hl => ?_)
        refine lv_aload_n hx hb dX10_joinSightings_29 rfl (lv_at hl 0 rfl) ?_
        refine lv_lconst (v := 0) hx hb dX10_joinSightings_30 (by decide) ?_
        refine xp_X10_180 C hM hk_3 dX10_joinSightings_31 (fun H locs hM => ?_)
        refine lv_aload_n hx hb dX10_joinSightings_34 rfl (lv_at hl 0 rfl) ?_
        refine lv_iconst (v := (-1)) hx hb dX10_joinSightings_35 (by decide) ?_
        refine xp_X10_177 C hM hk_3 dX10_joinSightings_36 (fun H locs hM => ?_)
        refine lv_iconst (v := 0) hx hb dX10_joinSightings_39 (by decide) ?_
        refine lv_istore_n (lv' := [(3, .int 0), (2, .ref (xe σw_2 2 (ix w1_2))), (0, .ref x), (1, .int w1_2)]) hx hb dX10_joinSightings_40 rfl hl (by decide) rfl (fun ls hl => ?_)
        exact J_l2_41 w1_2 (xe σw_2 2 (ix w1_2)) 0 (xI (xJ σw_2 149 (xe σw_2 2 (ix w1_2)) 0) 150 (xe σw_2 2 (ix w1_2)) (-1)) hf hok _ _ ls hM (lv_sub hl [2, 3, 1, 0] rfl)
    · have hok := And.right hok
      intro H locs ls hM hl
      exact J_108 ((itr (s_X10_joinSightings_2 x) FU (v1_2, σ_2)).2) hf _ _ ls hM (lv_sub hl [] rfl)
  refine lv_iconst (v := 0) hx hb dX10_joinSightings_0 (by decide) ?_
  refine lv_istore_n (lv' := [(1, .int 0), (0, .ref x)]) hx hb dX10_joinSightings_1 rfl hl (by decide) rfl (fun ls hl => ?_)
  exact J_2 0 σ hf hok _ _ ls hM (lv_sub hl [1, 0] rfl)
def f_X10_groupOf_l35_78 (x : Nat) (v5_35 : Int32) (v6_35 : Int64) (σ : XS) (w2_35 : Int64) (w8_35 : Int32) (v2_78 : Int64) (v8_78 : Int32) : Bool × (Int64 × Int32) := (true, (v2_78, (v8_78 + 1)))
def b_X10_groupOf_35 (x : Nat) (v5_35 : Int32) (v6_35 : Int64) (σ : XS) (w2_35 : Int64) (w8_35 : Int32) : Bool × (Int64 × Int32) := (if (nI (xn σ 2)) ≤ w8_35 then (false, (w2_35, w8_35)) else (if (f_X10_holds w2_35 w8_35) = 0 then (f_X10_groupOf_l35_78 x v5_35 v6_35 σ w2_35 w8_35 w2_35 w8_35) else (f_X10_groupOf_l35_78 x v5_35 v6_35 σ w2_35 w8_35 (w2_35 ||| (xj σ 149 (xe σ 2 (ix w8_35)))) w8_35)))
def ob_X10_groupOf_35 (x : Nat) (v5_35 : Int32) (v6_35 : Int64) (σ : XS) (w2_35 : Int64) (w8_35 : Int32) : Prop := (oif ((nI (xn σ 2)) ≤ w8_35) True (oif ((f_X10_holds w2_35 w8_35) = 0) True (vp_in w8_35 (xn σ 2) ∧ ((xk σ (xe σ 2 (ix w8_35))) = 7 ∧ True))))
def s_X10_groupOf_35 (x : Nat) (v5_35 : Int32) (v6_35 : Int64) (σ : XS) (v : Int64 × Int32) : Bool × (Int64 × Int32) := b_X10_groupOf_35 x v5_35 v6_35 σ v.1 v.2
def os_X10_groupOf_35 (x : Nat) (v5_35 : Int32) (v6_35 : Int64) (σ : XS) (v : Int64 × Int32) : Prop := ob_X10_groupOf_35 x v5_35 v6_35 σ v.1 v.2
def f_X10_groupOf_l10_96 (x : Nat) (σ : XS) (w2_10 : Int64) (w4_10 : Int32) (w5_10 : Int32) (v2_96 : Int64) (v5_96 : Int32) (t0_96 : Int32) : Bool × (Int64 × Int32 × Int32) := (true, (v2_96, t0_96, (v5_96 + 1)))
def f_X10_groupOf_l10_84 (x : Nat) (σ : XS) (w2_10 : Int64) (w4_10 : Int32) (w5_10 : Int32) (v2_84 : Int64) (v5_84 : Int32) (v6_84 : Int64) : Bool × (Int64 × Int32 × Int32) := (if (lg_cmp v2_84 v6_84) = 0 then (f_X10_groupOf_l10_96 x σ w2_10 w4_10 w5_10 v2_84 v5_84 0) else (f_X10_groupOf_l10_96 x σ w2_10 w4_10 w5_10 v2_84 v5_84 1))
def f_X10_groupOf_l10_35 (x : Nat) (σ : XS) (w2_10 : Int64) (w4_10 : Int32) (w5_10 : Int32) (v2_35 : Int64) (v5_35 : Int32) (v6_35 : Int64) (v8_35 : Int32) : Bool × (Int64 × Int32 × Int32) := (f_X10_groupOf_l10_84 x σ w2_10 w4_10 w5_10 ((itr (s_X10_groupOf_35 x v5_35 v6_35 σ) FU (v2_35, v8_35)).1) v5_35 v6_35)
def of_X10_groupOf_l10_35 (x : Nat) (σ : XS) (w2_10 : Int64) (w4_10 : Int32) (w5_10 : Int32) (v2_35 : Int64) (v5_35 : Int32) (v6_35 : Int64) (v8_35 : Int32) : Prop := (ito (s_X10_groupOf_35 x v5_35 v6_35 σ) (os_X10_groupOf_35 x v5_35 v6_35 σ) FU (v2_35, v8_35) ∧ True)
def b_X10_groupOf_10 (x : Nat) (σ : XS) (w2_10 : Int64) (w4_10 : Int32) (w5_10 : Int32) : Bool × (Int64 × Int32 × Int32) := (if w4_10 = 0 then (false, (w2_10, w4_10, w5_10)) else (if (nI (xn σ 2)) ≤ w5_10 then (false, (w2_10, w4_10, w5_10)) else (f_X10_groupOf_l10_35 x σ w2_10 w4_10 w5_10 w2_10 w5_10 w2_10 0)))
def ob_X10_groupOf_10 (x : Nat) (σ : XS) (w2_10 : Int64) (w4_10 : Int32) (w5_10 : Int32) : Prop := (oif (w4_10 = 0) True (oif ((nI (xn σ 2)) ≤ w5_10) True (of_X10_groupOf_l10_35 x σ w2_10 w4_10 w5_10 w2_10 w5_10 w2_10 0)))
def s_X10_groupOf_10 (x : Nat) (σ : XS) (v : Int64 × Int32 × Int32) : Bool × (Int64 × Int32 × Int32) := b_X10_groupOf_10 x σ v.1 v.2.1 v.2.2
def os_X10_groupOf_10 (x : Nat) (σ : XS) (v : Int64 × Int32 × Int32) : Prop := ob_X10_groupOf_10 x σ v.1 v.2.1 v.2.2
def f_X10_groupOf_104 (σ : XS) (x : Nat) (p1 : Int32) (v2_104 : Int64) : Int64 := v2_104
def f_X10_groupOf_10 (σ : XS) (x : Nat) (p1 : Int32) (v2_10 : Int64) (v4_10 : Int32) (v5_10 : Int32) : Int64 := (f_X10_groupOf_104 σ x p1 ((itr (s_X10_groupOf_10 x σ) FU (v2_10, v4_10, v5_10)).1))
def of_X10_groupOf_10 (σ : XS) (x : Nat) (p1 : Int32) (v2_10 : Int64) (v4_10 : Int32) (v5_10 : Int32) : Prop := (ito (s_X10_groupOf_10 x σ) (os_X10_groupOf_10 x σ) FU (v2_10, v4_10, v5_10) ∧ True)
def f_X10_groupOf (σ : XS) (x : Nat) (p1 : Int32) : Int64 := (f_X10_groupOf_10 σ x p1 ((1 : Int64) <<< (p1.toInt64 &&& 63)) 1 0)
def of_X10_groupOf (σ : XS) (x : Nat) (p1 : Int32) : Prop := (of_X10_groupOf_10 σ x p1 ((1 : Int64) <<< (p1.toInt64 &&& 63)) 1 0)
set_option maxHeartbeats 4000000 in
set_option maxRecDepth 100000 in
theorem k_X10_groupOf (l : Launch) (D : va_G) (a : Nat → ClassId) (x : Nat) (e0 : Nat) (A : Nat → Prop) (σ : XS) (p1 : Int32) (hok : of_X10_groupOf σ x p1) : K0 l yX10_groupOf cX10_groupOf 9 ((some .long)) 3 64 [.ref x, .int p1] (BX D a x e0 A σ) (.long (f_X10_groupOf σ x p1)) := by
  refine go0l (D := D) (a := a) (by decide +kernel) (fun _ h => h.1.1) (Nat.le_of_ble_eq_true rfl) ?_
  intro p e s m args below meth c ls R Q hRf hRl C hl hB
  obtain ⟨hB, ret⟩ := hB
  have hE := hB.1
  have hM : HX D a x e0 A σ s.heap s.heap [] := ⟨hB.2, va_S.rf⟩
  have hl : lv_has ls 9 [(0, .ref x), (1, .int p1)] := hl
  have hx := C.1.1
  have hb := C.1.2.1
  have hts := C.1.2.2.2.2
  have hown := C.1.2.2.2.1
  have hf : (f_X10_groupOf σ x p1) = (f_X10_groupOf σ x p1) := rfl
  have J_104 : ∀ (v2_104 : Int64), (f_X10_groupOf σ x p1) = f_X10_groupOf_104 σ x p1 v2_104 → ∀ (ls : Array Slot), lv_has ls 9 [(2, .long v2_104)] → W p l e R s m args below meth c s.heap [] 0 0 Q (F0 m 104 ls []) := by
    intro v2_104 hf ls hl
    refine lv_lload_n hx hb dX10_groupOf_104 rfl (lv_at hl 0 rfl) ?_
    exact ret _ _ _ dX10_groupOf_105 hf
  have J_10 : ∀ (v2_10 : Int64) (v4_10 : Int32) (v5_10 : Int32), (f_X10_groupOf σ x p1) = f_X10_groupOf_10 σ x p1 v2_10 v4_10 v5_10 → of_X10_groupOf_10 σ x p1 v2_10 v4_10 v5_10 → ∀ (ls : Array Slot), lv_has ls 9 [(0, .ref x), (2, .long v2_10), (4, .int v4_10), (5, .int v5_10)] → W p l e R s m args below meth c s.heap [] 0 0 Q (F0 m 10 ls []) := by
    intro v2_10 v4_10 v5_10 hf hok ls hl
    refine itr_W (f := (s_X10_groupOf_10 x σ)) (o := (os_X10_groupOf_10 x σ)) (fun (v : Int64 × Int32 × Int32) => ∀ (ls : Array Slot), lv_has ls 9 [(0, .ref x), (2, .long v.1), (4, .int v.2.1), (5, .int v.2.2)] → W p l e R s m args below meth c s.heap [] 0 0 Q (F0 m 10 ls [])) (fun (v : Int64 × Int32 × Int32) => ∀ (ls : Array Slot), lv_has ls 9 [(2, .long v.1)] → W p l e R s m args below meth c s.heap [] 0 0 Q (F0 m 104 ls [])) ?_ FU (v2_10, v4_10, v5_10) (And.left hok) ?_ ls (lv_sub hl [0, 1, 2, 3] rfl)
    · intro v hov kc ke
      obtain ⟨w2_10, w4_10, w5_10⟩ := v
      have hok : ob_X10_groupOf_10 x σ w2_10 w4_10 w5_10 := hov
      change ∀ v', (b_X10_groupOf_10 x σ w2_10 w4_10 w5_10) = (true, v') → _ at kc
      change ∀ v', (b_X10_groupOf_10 x σ w2_10 w4_10 w5_10) = (false, v') → _ at ke
      have hf : (b_X10_groupOf_10 x σ w2_10 w4_10 w5_10) = (b_X10_groupOf_10 x σ w2_10 w4_10 w5_10) := rfl
      intro ls hl
      have J_l10_96 : ∀ (v2_96 : Int64) (v5_96 : Int32) (t0_96 : Int32), (b_X10_groupOf_10 x σ w2_10 w4_10 w5_10) = f_X10_groupOf_l10_96 x σ w2_10 w4_10 w5_10 v2_96 v5_96 t0_96 → ∀ (ls : Array Slot), lv_has ls 9 [(0, .ref x), (2, .long v2_96), (5, .int v5_96)] → W p l e R s m args below meth c s.heap [] 0 0 Q (F0 m 96 ls [.int t0_96]) := by
        intro v2_96 v5_96 t0_96 hf ls hl
        refine lv_istore (lv' := [(4, .int t0_96), (0, .ref x), (2, .long v2_96), (5, .int v5_96)]) hx hb dX10_groupOf_96 hl (by decide) rfl (fun ls hl => ?_)
        refine lv_iinc (v := (v5_96 + 1)) (lv' := [(5, .int (v5_96 + 1)), (4, .int t0_96), (0, .ref x), (2, .long v2_96)]) hx hb dX10_groupOf_98 hl (k := 3) rfl rfl (by decide) rfl (fun ls hl => ?_)
        refine lv_goto (tgt := 10) hx hb dX10_groupOf_101 (by decide) ?_
        exact kc (v2_96, t0_96, (v5_96 + 1)) hf ls (lv_sub hl [2, 3, 1, 0] rfl)
      have J_l10_84 : ∀ (v2_84 : Int64) (v5_84 : Int32) (v6_84 : Int64), (b_X10_groupOf_10 x σ w2_10 w4_10 w5_10) = f_X10_groupOf_l10_84 x σ w2_10 w4_10 w5_10 v2_84 v5_84 v6_84 → ∀ (ls : Array Slot), lv_has ls 9 [(0, .ref x), (2, .long v2_84), (5, .int v5_84), (6, .long v6_84)] → W p l e R s m args below meth c s.heap [] 0 0 Q (F0 m 84 ls []) := by
        intro v2_84 v5_84 v6_84 hf ls hl
        refine lv_lload_n hx hb dX10_groupOf_84 rfl (lv_at hl 1 rfl) ?_
        refine lv_lload hx hb dX10_groupOf_85 (lv_at hl 3 rfl) ?_
        refine W.lcmp hx hb dX10_groupOf_87 ?_
        refine lv_if_eq (tgt := 95) hx hb dX10_groupOf_88 (by decide) (fun c_7 => ?_) (fun c_7 => ?_)
        · have hf := hf.trans (if_pos c_7)
          refine lv_iconst (v := 0) hx hb dX10_groupOf_95 (by decide) ?_
          exact J_l10_96 v2_84 v5_84 0 hf ls (lv_sub hl [0, 1, 2] rfl)
        · have hf := hf.trans (if_neg c_7)
          refine lv_iconst (v := 1) hx hb dX10_groupOf_91 (by decide) ?_
          refine lv_goto (tgt := 96) hx hb dX10_groupOf_92 (by decide) ?_
          exact J_l10_96 v2_84 v5_84 1 hf ls (lv_sub hl [0, 1, 2] rfl)
      have J_l10_35 : ∀ (v2_35 : Int64) (v5_35 : Int32) (v6_35 : Int64) (v8_35 : Int32), (b_X10_groupOf_10 x σ w2_10 w4_10 w5_10) = f_X10_groupOf_l10_35 x σ w2_10 w4_10 w5_10 v2_35 v5_35 v6_35 v8_35 → of_X10_groupOf_l10_35 x σ w2_10 w4_10 w5_10 v2_35 v5_35 v6_35 v8_35 → ∀ (ls : Array Slot), lv_has ls 9 [(0, .ref x), (2, .long v2_35), (5, .int v5_35), (6, .long v6_35), (8, .int v8_35)] → W p l e R s m args below meth c s.heap [] 0 0 Q (F0 m 35 ls []) := by
        intro v2_35 v5_35 v6_35 v8_35 hf hok ls hl
        refine itr_W (f := (s_X10_groupOf_35 x v5_35 v6_35 σ)) (o := (os_X10_groupOf_35 x v5_35 v6_35 σ)) (fun (v : Int64 × Int32) => ∀ (ls : Array Slot), lv_has ls 9 [(0, .ref x), (2, .long v.1), (5, .int v5_35), (6, .long v6_35), (8, .int v.2)] → W p l e R s m args below meth c s.heap [] 0 0 Q (F0 m 35 ls [])) (fun (v : Int64 × Int32) => ∀ (ls : Array Slot), lv_has ls 9 [(0, .ref x), (2, .long v.1), (5, .int v5_35), (6, .long v6_35)] → W p l e R s m args below meth c s.heap [] 0 0 Q (F0 m 84 ls [])) ?_ FU (v2_35, v8_35) (And.left hok) ?_ ls (lv_sub hl [0, 1, 2, 3, 4] rfl)
        · intro v hov kc ke
          obtain ⟨w2_35, w8_35⟩ := v
          have hok : ob_X10_groupOf_35 x v5_35 v6_35 σ w2_35 w8_35 := hov
          change ∀ v', (b_X10_groupOf_35 x v5_35 v6_35 σ w2_35 w8_35) = (true, v') → _ at kc
          change ∀ v', (b_X10_groupOf_35 x v5_35 v6_35 σ w2_35 w8_35) = (false, v') → _ at ke
          have hf : (b_X10_groupOf_35 x v5_35 v6_35 σ w2_35 w8_35) = (b_X10_groupOf_35 x v5_35 v6_35 σ w2_35 w8_35) := rfl
          intro ls hl
          have J_l35_78 : ∀ (v2_78 : Int64) (v8_78 : Int32), (b_X10_groupOf_35 x v5_35 v6_35 σ w2_35 w8_35) = f_X10_groupOf_l35_78 x v5_35 v6_35 σ w2_35 w8_35 v2_78 v8_78 → ∀ (ls : Array Slot), lv_has ls 9 [(0, .ref x), (2, .long v2_78), (5, .int v5_35), (6, .long v6_35), (8, .int v8_78)] → W p l e R s m args below meth c s.heap [] 0 0 Q (F0 m 78 ls []) := by
            intro v2_78 v8_78 hf ls hl
            refine lv_iinc (v := (v8_78 + 1)) (lv' := [(8, .int (v8_78 + 1)), (0, .ref x), (2, .long v2_78), (5, .int v5_35), (6, .long v6_35)]) hx hb dX10_groupOf_78 hl (k := 4) rfl rfl (by decide) rfl (fun ls hl => ?_)
            refine lv_goto (tgt := 35) hx hb dX10_groupOf_81 (by decide) ?_
            exact kc (v2_78, (v8_78 + 1)) hf ls (lv_sub hl [1, 2, 3, 4, 0] rfl)
          refine lv_iload hx hb dX10_groupOf_35 (lv_at hl 4 rfl) ?_
          refine lv_aload_n hx hb dX10_groupOf_37 rfl (lv_at hl 0 rfl) ?_
          refine xt_sightings C hM dX10_groupOf_38 ?_
          refine xl_size (j := 2) C hE hM (by decide) hRf hRl (Nat.le_of_ble_eq_true rfl) (Nat.le_of_ble_eq_true rfl) hl.1 (Nat.le_of_ble_eq_true rfl) (Nat.zero_le _) (Nat.zero_le _) dX10_groupOf_41 ?_
          refine lv_icmp_ge (tgt := 84) hx hb dX10_groupOf_46 (by decide) (fun c_3 => ?_) (fun c_3 => ?_)
          · have hf := hf.trans (if_pos c_3)
            have hok := oif_pos hok c_3
            exact ke (w2_35, w8_35) hf ls (lv_sub hl [0, 1, 2, 3] rfl)
          · have hf := hf.trans (if_neg c_3)
            have hok := oif_neg hok c_3
            refine lv_lload_n hx hb dX10_groupOf_49 rfl (lv_at hl 1 rfl) ?_
            refine lv_iload hx hb dX10_groupOf_50 (lv_at hl 4 rfl) ?_
            refine cc_S (av := [.long w2_35, .int w8_35]) C (k_X10_holds l D a w2_35 w8_35) cw_X10_401 (okR_of hRf hRl (Nat.le_of_ble_eq_true rfl) (Nat.le_of_ble_eq_true rfl)) rfl rfl hl.1 (Nat.le_of_ble_eq_true rfl) (Nat.zero_le _) (Nat.zero_le _) dX10_groupOf_52 ?_
            refine lv_if_eq (tgt := 78) hx hb dX10_groupOf_55 (by decide) (fun c_4 => ?_) (fun c_4 => ?_)
            · have hf := hf.trans (if_pos c_4)
              have hok := oif_pos hok c_4
              exact J_l35_78 w2_35 w8_35 hf ls (lv_sub hl [0, 1, 2, 3, 4] rfl)
            · have hf := hf.trans (if_neg c_4)
              have hok := oif_neg hok c_4
              refine lv_lload_n hx hb dX10_groupOf_58 rfl (lv_at hl 1 rfl) ?_
              refine lv_aload_n hx hb dX10_groupOf_59 rfl (lv_at hl 0 rfl) ?_
              refine xt_sightings C hM dX10_groupOf_60 ?_
              refine lv_iload hx hb dX10_groupOf_63 (lv_at hl 4 rfl) ?_
              have ok_5 := And.left hok
              have hok := And.right hok
              refine xl_get (j := 2) C hE hM (by decide) ok_5 hRf hRl (Nat.le_of_ble_eq_true rfl) (Nat.le_of_ble_eq_true rfl) hl.1 (Nat.le_of_ble_eq_true rfl) (Nat.zero_le _) (Nat.zero_le _) dX10_groupOf_65 ?_
              have hk_6 := And.left hok
              have hok := And.right hok
              refine xcast (K := 7) C (xat_7 hM hk_6) rfl q_458 dX10_groupOf_70 ?_
              refine xg_X10_180 C hM hk_6 dX10_groupOf_73 ?_
              refine lv_lor hx hb dX10_groupOf_76 ?_
              refine lv_lstore_n (lv' := [(2, .long (w2_35 ||| (xj σ 149 (xe σ 2 (ix w8_35))))), (0, .ref x), (5, .int v5_35), (6, .long v6_35), (8, .int w8_35)]) hx hb dX10_groupOf_77 rfl hl (by decide) rfl (fun ls hl => ?_)
              exact J_l35_78 (w2_35 ||| (xj σ 149 (xe σ 2 (ix w8_35)))) w8_35 hf ls (lv_sub hl [1, 0, 2, 3, 4] rfl)
        · have hok := And.right hok
          intro ls hl
          exact J_l10_84 ((itr (s_X10_groupOf_35 x v5_35 v6_35 σ) FU (v2_35, v8_35)).1) v5_35 v6_35 hf ls (lv_sub hl [0, 1, 2, 3] rfl)
      refine lv_iload hx hb dX10_groupOf_10 (lv_at hl 2 rfl) ?_
      refine lv_if_eq (tgt := 104) hx hb dX10_groupOf_12 (by decide) (fun c_1 => ?_) (fun c_1 => ?_)
      · have hf := hf.trans (if_pos c_1)
        have hok := oif_pos hok c_1
        exact ke (w2_10, w4_10, w5_10) hf ls (lv_sub hl [1] rfl)
      · have hf := hf.trans (if_neg c_1)
        have hok := oif_neg hok c_1
        refine lv_iload hx hb dX10_groupOf_15 (lv_at hl 3 rfl) ?_
        refine lv_aload_n hx hb dX10_groupOf_17 rfl (lv_at hl 0 rfl) ?_
        refine xt_sightings C hM dX10_groupOf_18 ?_
        refine xl_size (j := 2) C hE hM (by decide) hRf hRl (Nat.le_of_ble_eq_true rfl) (Nat.le_of_ble_eq_true rfl) hl.1 (Nat.le_of_ble_eq_true rfl) (Nat.zero_le _) (Nat.zero_le _) dX10_groupOf_21 ?_
        refine lv_icmp_ge (tgt := 104) hx hb dX10_groupOf_26 (by decide) (fun c_2 => ?_) (fun c_2 => ?_)
        · have hf := hf.trans (if_pos c_2)
          have hok := oif_pos hok c_2
          exact ke (w2_10, w4_10, w5_10) hf ls (lv_sub hl [1] rfl)
        · have hf := hf.trans (if_neg c_2)
          have hok := oif_neg hok c_2
          refine lv_lload_n hx hb dX10_groupOf_29 rfl (lv_at hl 1 rfl) ?_
          refine lv_lstore (lv' := [(6, .long w2_10), (0, .ref x), (2, .long w2_10), (4, .int w4_10), (5, .int w5_10)]) hx hb dX10_groupOf_30 hl (by decide) rfl (fun ls hl => ?_)
          refine lv_iconst (v := 0) hx hb dX10_groupOf_32 (by decide) ?_
          refine lv_istore (lv' := [(8, .int 0), (6, .long w2_10), (0, .ref x), (2, .long w2_10), (4, .int w4_10), (5, .int w5_10)]) hx hb dX10_groupOf_33 hl (by decide) rfl (fun ls hl => ?_)
          exact J_l10_35 w2_10 w5_10 w2_10 0 hf hok ls (lv_sub hl [2, 3, 5, 1, 0] rfl)
    · have hok := And.right hok
      intro ls hl
      exact J_104 ((itr (s_X10_groupOf_10 x σ) FU (v2_10, v4_10, v5_10)).1) hf ls (lv_sub hl [0] rfl)
  refine lv_lconst (v := 1) hx hb dX10_groupOf_0 (by decide) ?_
  refine lv_iload_n hx hb dX10_groupOf_1 rfl (lv_at hl 1 rfl) ?_
  refine lv_lshl (v := ((1 : Int64) <<< (p1.toInt64 &&& 63))) hx hb dX10_groupOf_2 rfl ?_
  refine lv_lstore_n (lv' := [(2, .long ((1 : Int64) <<< (p1.toInt64 &&& 63))), (0, .ref x), (1, .int p1)]) hx hb dX10_groupOf_3 rfl hl (by decide) rfl (fun ls hl => ?_)
  refine lv_iconst (v := 1) hx hb dX10_groupOf_4 (by decide) ?_
  refine lv_istore (lv' := [(4, .int 1), (2, .long ((1 : Int64) <<< (p1.toInt64 &&& 63))), (0, .ref x), (1, .int p1)]) hx hb dX10_groupOf_5 hl (by decide) rfl (fun ls hl => ?_)
  refine lv_iconst (v := 0) hx hb dX10_groupOf_7 (by decide) ?_
  refine lv_istore (lv' := [(5, .int 0), (4, .int 1), (2, .long ((1 : Int64) <<< (p1.toInt64 &&& 63))), (0, .ref x), (1, .int p1)]) hx hb dX10_groupOf_8 hl (by decide) rfl (fun ls hl => ?_)
  exact J_10 ((1 : Int64) <<< (p1.toInt64 &&& 63)) 1 0 hf hok ls (lv_sub hl [3, 2, 1, 0] rfl)
def f_X10_addPlaces_l3_89 (x : Nat) (p1 : Nat) (p2 : Nat) (p3 : Int32) (w4_3 : Int32) (σw_3 : XS) (v4_89 : Int32) (σ_89 : XS) : Bool × (Int32 × XS) := (true, ((v4_89 + 1), σ_89))
def f_X10_addPlaces_l3_74 (x : Nat) (p1 : Nat) (p2 : Nat) (p3 : Int32) (w4_3 : Int32) (σw_3 : XS) (v4_74 : Int32) (t0_74 : Int32) (σ_74 : XS) : Bool × (Int32 × XS) := (if t0_74 = 0 then (f_X10_addPlaces_l3_89 x p1 p2 p3 w4_3 σw_3 v4_74 σ_74) else (f_X10_addPlaces_l3_89 x p1 p2 p3 w4_3 σw_3 v4_74 ((f_X4_addPair σ_74 p1 (x + 5) (x + 6)).2)))
def of_X10_addPlaces_l3_74 (x : Nat) (p1 : Nat) (p2 : Nat) (p3 : Int32) (w4_3 : Int32) (σw_3 : XS) (v4_74 : Int32) (t0_74 : Int32) (σ_74 : XS) : Prop := (oif (t0_74 = 0) True (of_X4_addPair σ_74 p1 (x + 5) (x + 6) ∧ ((xk σ_74 p1) = 5 ∧ True)))
def f_X10_addPlaces_l3_61 (x : Nat) (p1 : Nat) (p2 : Nat) (p3 : Int32) (w4_3 : Int32) (σw_3 : XS) (v4_61 : Int32) (v5_61 : Nat) (t0_61 : Int32) (σ_61 : XS) : Bool × (Int32 × XS) := (if t0_61 = 0 then (f_X10_addPlaces_l3_89 x p1 p2 p3 w4_3 σw_3 v4_61 σ_61) else (f_X10_addPlaces_l3_74 x p1 p2 p3 w4_3 σw_3 v4_61 ((f_X2_isOfEnds σ_61 (x + 6) p2 v5_61).1) ((f_X2_isOfEnds σ_61 (x + 6) p2 v5_61).2)))
def of_X10_addPlaces_l3_61 (x : Nat) (p1 : Nat) (p2 : Nat) (p3 : Int32) (w4_3 : Int32) (σw_3 : XS) (v4_61 : Int32) (v5_61 : Nat) (t0_61 : Int32) (σ_61 : XS) : Prop := (oif (t0_61 = 0) True (of_X2_isOfEnds σ_61 (x + 6) p2 v5_61 ∧ ((xk σ_61 (x + 6)) = 3 ∧ (of_X10_addPlaces_l3_74 x p1 p2 p3 w4_3 σw_3 v4_61 ((f_X2_isOfEnds σ_61 (x + 6) p2 v5_61).1) ((f_X2_isOfEnds σ_61 (x + 6) p2 v5_61).2)))))
def b_X10_addPlaces_3 (x : Nat) (p1 : Nat) (p2 : Nat) (p3 : Int32) (w4_3 : Int32) (σw_3 : XS) : Bool × (Int32 × XS) := (if p3 ≤ w4_3 then (false, (w4_3, σw_3)) else (if (nI (xn σw_3 2)) ≤ w4_3 then (false, (w4_3, σw_3)) else (if (f_X10_holds (xj σw_3 149 p2) w4_3) = 0 then (f_X10_addPlaces_l3_89 x p1 p2 p3 w4_3 σw_3 w4_3 σw_3) else (f_X10_addPlaces_l3_61 x p1 p2 p3 w4_3 σw_3 w4_3 (xe σw_3 2 (ix w4_3)) ((f_X2_isOfBegins σw_3 (x + 5) p2 (xe σw_3 2 (ix w4_3))).1) ((f_X2_isOfBegins σw_3 (x + 5) p2 (xe σw_3 2 (ix w4_3))).2)))))
def ob_X10_addPlaces_3 (x : Nat) (p1 : Nat) (p2 : Nat) (p3 : Int32) (w4_3 : Int32) (σw_3 : XS) : Prop := (oif (p3 ≤ w4_3) True (oif ((nI (xn σw_3 2)) ≤ w4_3) True (vp_in w4_3 (xn σw_3 2) ∧ ((xk σw_3 (xe σw_3 2 (ix w4_3))) = 7 ∧ ((xk σw_3 p2) = 7 ∧ (oif ((f_X10_holds (xj σw_3 149 p2) w4_3) = 0) True (of_X2_isOfBegins σw_3 (x + 5) p2 (xe σw_3 2 (ix w4_3)) ∧ ((xk σw_3 (x + 5)) = 3 ∧ (of_X10_addPlaces_l3_61 x p1 p2 p3 w4_3 σw_3 w4_3 (xe σw_3 2 (ix w4_3)) ((f_X2_isOfBegins σw_3 (x + 5) p2 (xe σw_3 2 (ix w4_3))).1) ((f_X2_isOfBegins σw_3 (x + 5) p2 (xe σw_3 2 (ix w4_3))).2))))))))))
def s_X10_addPlaces_3 (x : Nat) (p1 : Nat) (p2 : Nat) (p3 : Int32) (v : Int32 × XS) : Bool × (Int32 × XS) := b_X10_addPlaces_3 x p1 p2 p3 v.1 v.2
def os_X10_addPlaces_3 (x : Nat) (p1 : Nat) (p2 : Nat) (p3 : Int32) (v : Int32 × XS) : Prop := ob_X10_addPlaces_3 x p1 p2 p3 v.1 v.2
def f_X10_addPlaces_95 (σ : XS) (x : Nat) (p1 : Nat) (p2 : Nat) (p3 : Int32) (σ_95 : XS) : Unit × XS := ((), σ_95)
def f_X10_addPlaces_3 (σ : XS) (x : Nat) (p1 : Nat) (p2 : Nat) (p3 : Int32) (v4_3 : Int32) (σ_3 : XS) : Unit × XS := (f_X10_addPlaces_95 σ x p1 p2 p3 ((itr (s_X10_addPlaces_3 x p1 p2 p3) FU (v4_3, σ_3)).2))
def of_X10_addPlaces_3 (σ : XS) (x : Nat) (p1 : Nat) (p2 : Nat) (p3 : Int32) (v4_3 : Int32) (σ_3 : XS) : Prop := (ito (s_X10_addPlaces_3 x p1 p2 p3) (os_X10_addPlaces_3 x p1 p2 p3) FU (v4_3, σ_3) ∧ True)
def f_X10_addPlaces (σ : XS) (x : Nat) (p1 : Nat) (p2 : Nat) (p3 : Int32) : Unit × XS := (f_X10_addPlaces_3 σ x p1 p2 p3 0 σ)
def of_X10_addPlaces (σ : XS) (x : Nat) (p1 : Nat) (p2 : Nat) (p3 : Int32) : Prop := (of_X10_addPlaces_3 σ x p1 p2 p3 0 σ)
set_option maxHeartbeats 4000000 in
set_option maxRecDepth 100000 in
theorem k_X10_addPlaces (l : Launch) (D : va_G) (a : Nat → ClassId) (x : Nat) (e0 : Nat) (A : Nat → Prop) (σ : XS) (p1 : Nat) (p2 : Nat) (p3 : Int32) (hok : of_X10_addPlaces σ x p1 p2 p3) : KX l D a x e0 A yX10_addPlaces cX10_addPlaces 6 none 3 83 0 0 [.ref x, .ref p1, .ref p2, .int p3] σ (fun _ => none) (fun _ => f_X10_addPlaces σ x p1 p2 p3) := by
  refine goXv (by decide +kernel) (Nat.le_of_ble_eq_true rfl) ?_
  intro p e s m args below meth c ls R Q nq hRf hRl hRc hRs hnq C hE hM hl hmn ret
  have hl : lv_has ls 6 [(0, .ref x), (1, .ref p1), (2, .ref p2), (3, .int p3)] := hl
  have hx := C.1.1
  have hb := C.1.2.1
  have hts := C.1.2.2.2.2
  have hown := C.1.2.2.2.1
  have hf : (f_X10_addPlaces σ x p1 p2 p3) = (f_X10_addPlaces σ x p1 p2 p3) := rfl
  have J_95 : ∀ (σ_95 : XS), (f_X10_addPlaces σ x p1 p2 p3) = f_X10_addPlaces_95 σ x p1 p2 p3 σ_95 → ∀ (H : Heap) (locs : List Loc) (ls : Array Slot), HX D a x e0 A σ_95 s.heap H locs → lv_has ls 6 [] → W p l e R s m args below meth c H locs 0 0 Q (F0 m 95 ls []) := by
    intro σ_95 hf H locs ls hM hl
    exact ret _ _ _ _ _ hM dX10_addPlaces_95 hf
  have J_3 : ∀ (v4_3 : Int32) (σ_3 : XS), (f_X10_addPlaces σ x p1 p2 p3) = f_X10_addPlaces_3 σ x p1 p2 p3 v4_3 σ_3 → of_X10_addPlaces_3 σ x p1 p2 p3 v4_3 σ_3 → ∀ (H : Heap) (locs : List Loc) (ls : Array Slot), HX D a x e0 A σ_3 s.heap H locs → lv_has ls 6 [(0, .ref x), (1, .ref p1), (2, .ref p2), (3, .int p3), (4, .int v4_3)] → W p l e R s m args below meth c H locs 0 0 Q (F0 m 3 ls []) := by
    intro v4_3 σ_3 hf hok H locs ls hM hl
    refine itr_W (f := (s_X10_addPlaces_3 x p1 p2 p3)) (o := (os_X10_addPlaces_3 x p1 p2 p3)) (fun (v : Int32 × XS) => ∀ (H : Heap) (locs : List Loc) (ls : Array Slot), HX D a x e0 A v.2 s.heap H locs → lv_has ls 6 [(0, .ref x), (1, .ref p1), (2, .ref p2), (3, .int p3), (4, .int v.1)] → W p l e R s m args below meth c H locs 0 0 Q (F0 m 3 ls [])) (fun (v : Int32 × XS) => ∀ (H : Heap) (locs : List Loc) (ls : Array Slot), HX D a x e0 A v.2 s.heap H locs → lv_has ls 6 [] → W p l e R s m args below meth c H locs 0 0 Q (F0 m 95 ls [])) ?_ FU (v4_3, σ_3) (And.left hok) ?_ _ _ ls hM (lv_sub hl [0, 1, 2, 3, 4] rfl)
    · intro v hov kc ke
      obtain ⟨w4_3, σw_3⟩ := v
      have hok : ob_X10_addPlaces_3 x p1 p2 p3 w4_3 σw_3 := hov
      change ∀ v', (b_X10_addPlaces_3 x p1 p2 p3 w4_3 σw_3) = (true, v') → _ at kc
      change ∀ v', (b_X10_addPlaces_3 x p1 p2 p3 w4_3 σw_3) = (false, v') → _ at ke
      have hf : (b_X10_addPlaces_3 x p1 p2 p3 w4_3 σw_3) = (b_X10_addPlaces_3 x p1 p2 p3 w4_3 σw_3) := rfl
      intro H locs ls hM hl
      have J_l3_89 : ∀ (v4_89 : Int32) (σ_89 : XS), (b_X10_addPlaces_3 x p1 p2 p3 w4_3 σw_3) = f_X10_addPlaces_l3_89 x p1 p2 p3 w4_3 σw_3 v4_89 σ_89 → ∀ (H : Heap) (locs : List Loc) (ls : Array Slot), HX D a x e0 A σ_89 s.heap H locs → lv_has ls 6 [(0, .ref x), (1, .ref p1), (2, .ref p2), (3, .int p3), (4, .int v4_89)] → W p l e R s m args below meth c H locs 0 0 Q (F0 m 89 ls []) := by
        intro v4_89 σ_89 hf H locs ls hM hl
        refine lv_iinc (v := (v4_89 + 1)) (lv' := [(4, .int (v4_89 + 1)), (0, .ref x), (1, .ref p1), (2, .ref p2), (3, .int p3)]) hx hb dX10_addPlaces_89 hl (k := 4) rfl rfl (by decide) rfl (fun ls hl => ?_)
        refine lv_goto (tgt := 3) hx hb dX10_addPlaces_92 (by decide) ?_
        exact kc ((v4_89 + 1), σ_89) hf H locs ls hM (lv_sub hl [1, 2, 3, 4, 0] rfl)
      have J_l3_74 : ∀ (v4_74 : Int32) (t0_74 : Int32) (σ_74 : XS), (b_X10_addPlaces_3 x p1 p2 p3 w4_3 σw_3) = f_X10_addPlaces_l3_74 x p1 p2 p3 w4_3 σw_3 v4_74 t0_74 σ_74 → of_X10_addPlaces_l3_74 x p1 p2 p3 w4_3 σw_3 v4_74 t0_74 σ_74 → ∀ (H : Heap) (locs : List Loc) (ls : Array Slot), HX D a x e0 A σ_74 s.heap H locs → lv_has ls 6 [(0, .ref x), (1, .ref p1), (2, .ref p2), (3, .int p3), (4, .int v4_74)] → W p l e R s m args below meth c H locs 0 0 Q (F0 m 74 ls [.int t0_74]) := by
        intro v4_74 t0_74 σ_74 hf hok H locs ls hM hl
        refine lv_if_eq (tgt := 89) hx hb dX10_addPlaces_74 (by decide) (fun c_12 => ?_) (fun c_12 => ?_)
        · have hf := hf.trans (if_pos c_12)
          have hok := oif_pos hok c_12
          exact J_l3_89 v4_74 σ_74 hf _ _ ls hM (lv_sub hl [0, 1, 2, 3, 4] rfl)
        · have hf := hf.trans (if_neg c_12)
          have hok := oif_neg hok c_12
          refine lv_aload_n hx hb dX10_addPlaces_77 rfl (lv_at hl 1 rfl) ?_
          refine lv_aload_n hx hb dX10_addPlaces_78 rfl (lv_at hl 0 rfl) ?_
          refine xt_begins C hM dX10_addPlaces_79 ?_
          refine lv_aload_n hx hb dX10_addPlaces_82 rfl (lv_at hl 0 rfl) ?_
          refine xt_ends C hM dX10_addPlaces_83 ?_
          have ok_13 := And.left hok
          have hok := And.right hok
          have hk_14 := And.left hok
          have hok := And.right hok
          refine cc_XM (av := [.ref (x + 5), .ref (x + 6)]) (b := p1) (N := 0) (Or.inr (fun _ => rfl)) C hE hM (k_X4_addPair l D a x e0 A σ_74 p1 (x + 5) (x + 6) ok_13) cw_X10_415 (okR_of hRf hRl (Nat.le_of_ble_eq_true rfl) (Nat.le_of_ble_eq_true rfl)) (xr_at (K := 5) C hM hk_14 (by decide) rfl) rfl rfl hl.1 (Nat.le_of_ble_eq_true rfl) (Nat.zero_le _) (Nat.zero_le _) dX10_addPlaces_86 (fun H locs hM => ?_)
          exact J_l3_89 v4_74 ((f_X4_addPair σ_74 p1 (x + 5) (x + 6)).2) hf _ _ ls hM (lv_sub hl [0, 1, 2, 3, 4] rfl)
      have J_l3_61 : ∀ (v4_61 : Int32) (v5_61 : Nat) (t0_61 : Int32) (σ_61 : XS), (b_X10_addPlaces_3 x p1 p2 p3 w4_3 σw_3) = f_X10_addPlaces_l3_61 x p1 p2 p3 w4_3 σw_3 v4_61 v5_61 t0_61 σ_61 → of_X10_addPlaces_l3_61 x p1 p2 p3 w4_3 σw_3 v4_61 v5_61 t0_61 σ_61 → ∀ (H : Heap) (locs : List Loc) (ls : Array Slot), HX D a x e0 A σ_61 s.heap H locs → lv_has ls 6 [(0, .ref x), (1, .ref p1), (2, .ref p2), (3, .int p3), (4, .int v4_61), (5, .ref v5_61)] → W p l e R s m args below meth c H locs 0 0 Q (F0 m 61 ls [.int t0_61]) := by
        intro v4_61 v5_61 t0_61 σ_61 hf hok H locs ls hM hl
        refine lv_if_eq (tgt := 89) hx hb dX10_addPlaces_61 (by decide) (fun c_9 => ?_) (fun c_9 => ?_)
        · have hf := hf.trans (if_pos c_9)
          have hok := oif_pos hok c_9
          exact J_l3_89 v4_61 σ_61 hf _ _ ls hM (lv_sub hl [0, 1, 2, 3, 4] rfl)
        · have hf := hf.trans (if_neg c_9)
          have hok := oif_neg hok c_9
          refine lv_aload_n hx hb dX10_addPlaces_64 rfl (lv_at hl 0 rfl) ?_
          refine xt_ends C hM dX10_addPlaces_65 ?_
          refine lv_aload_n hx hb dX10_addPlaces_68 rfl (lv_at hl 2 rfl) ?_
          refine lv_aload hx hb dX10_addPlaces_69 (lv_at hl 5 rfl) ?_
          have ok_10 := And.left hok
          have hok := And.right hok
          have hk_11 := And.left hok
          have hok := And.right hok
          refine cc_XM (av := [.ref p2, .ref v5_61]) (b := (x + 6)) (N := 0) (Or.inr (fun _ => rfl)) C hE hM (k_X2_isOfEnds l D a x e0 A σ_61 (x + 6) p2 v5_61 ok_10) cw_X10_395 (okR_of hRf hRl (Nat.le_of_ble_eq_true rfl) (Nat.le_of_ble_eq_true rfl)) (xr_at (K := 3) C hM hk_11 (by decide) rfl) rfl rfl hl.1 (Nat.le_of_ble_eq_true rfl) (Nat.zero_le _) (Nat.zero_le _) dX10_addPlaces_71 (fun H locs hM => ?_)
          exact J_l3_74 v4_61 ((f_X2_isOfEnds σ_61 (x + 6) p2 v5_61).1) ((f_X2_isOfEnds σ_61 (x + 6) p2 v5_61).2) hf hok _ _ ls hM (lv_sub hl [0, 1, 2, 3, 4] rfl)
      refine lv_iload hx hb dX10_addPlaces_3 (lv_at hl 4 rfl) ?_
      refine lv_iload_n hx hb dX10_addPlaces_5 rfl (lv_at hl 3 rfl) ?_
      refine lv_icmp_ge (tgt := 95) hx hb dX10_addPlaces_6 (by decide) (fun c_1 => ?_) (fun c_1 => ?_)
      · have hf := hf.trans (if_pos c_1)
        have hok := oif_pos hok c_1
        exact ke (w4_3, σw_3) hf H locs ls hM (lv_sub hl [] rfl)
      · have hf := hf.trans (if_neg c_1)
        have hok := oif_neg hok c_1
        refine lv_iload hx hb dX10_addPlaces_9 (lv_at hl 4 rfl) ?_
        refine lv_aload_n hx hb dX10_addPlaces_11 rfl (lv_at hl 0 rfl) ?_
        refine xt_sightings C hM dX10_addPlaces_12 ?_
        refine xl_size (j := 2) C hE hM (by decide) hRf hRl (Nat.le_of_ble_eq_true rfl) (Nat.le_of_ble_eq_true rfl) hl.1 (Nat.le_of_ble_eq_true rfl) (Nat.zero_le _) (Nat.zero_le _) dX10_addPlaces_15 ?_
        refine lv_icmp_ge (tgt := 95) hx hb dX10_addPlaces_20 (by decide) (fun c_2 => ?_) (fun c_2 => ?_)
        · have hf := hf.trans (if_pos c_2)
          have hok := oif_pos hok c_2
          exact ke (w4_3, σw_3) hf H locs ls hM (lv_sub hl [] rfl)
        · have hf := hf.trans (if_neg c_2)
          have hok := oif_neg hok c_2
          refine lv_aload_n hx hb dX10_addPlaces_23 rfl (lv_at hl 0 rfl) ?_
          refine xt_sightings C hM dX10_addPlaces_24 ?_
          refine lv_iload hx hb dX10_addPlaces_27 (lv_at hl 4 rfl) ?_
          have ok_3 := And.left hok
          have hok := And.right hok
          refine xl_get (j := 2) C hE hM (by decide) ok_3 hRf hRl (Nat.le_of_ble_eq_true rfl) (Nat.le_of_ble_eq_true rfl) hl.1 (Nat.le_of_ble_eq_true rfl) (Nat.zero_le _) (Nat.zero_le _) dX10_addPlaces_29 ?_
          have hk_4 := And.left hok
          have hok := And.right hok
          refine xcast (K := 7) C (xat_7 hM hk_4) rfl q_458 dX10_addPlaces_34 ?_
          refine lv_astore (lv' := [(5, .ref (xe σw_3 2 (ix w4_3))), (0, .ref x), (1, .ref p1), (2, .ref p2), (3, .int p3), (4, .int w4_3)]) hx hb dX10_addPlaces_37 hl (by decide) rfl (fun ls hl => ?_)
          refine lv_aload_n hx hb dX10_addPlaces_39 rfl (lv_at hl 3 rfl) ?_
          have hk_5 := And.left hok
          have hok := And.right hok
          refine xg_X10_180 C hM hk_5 dX10_addPlaces_40 ?_
          refine lv_iload hx hb dX10_addPlaces_43 (lv_at hl 5 rfl) ?_
          refine cc_S (av := [.long (xj σw_3 149 p2), .int w4_3]) C (k_X10_holds l D a (xj σw_3 149 p2) w4_3) cw_X10_401 (okR_of hRf hRl (Nat.le_of_ble_eq_true rfl) (Nat.le_of_ble_eq_true rfl)) rfl rfl hl.1 (Nat.le_of_ble_eq_true rfl) (Nat.zero_le _) (Nat.zero_le _) dX10_addPlaces_45 ?_
          refine lv_if_eq (tgt := 89) hx hb dX10_addPlaces_48 (by decide) (fun c_6 => ?_) (fun c_6 => ?_)
          · have hf := hf.trans (if_pos c_6)
            have hok := oif_pos hok c_6
            exact J_l3_89 w4_3 σw_3 hf _ _ ls hM (lv_sub hl [1, 2, 3, 4, 5] rfl)
          · have hf := hf.trans (if_neg c_6)
            have hok := oif_neg hok c_6
            refine lv_aload_n hx hb dX10_addPlaces_51 rfl (lv_at hl 1 rfl) ?_
            refine xt_begins C hM dX10_addPlaces_52 ?_
            refine lv_aload_n hx hb dX10_addPlaces_55 rfl (lv_at hl 3 rfl) ?_
            refine lv_aload hx hb dX10_addPlaces_56 (lv_at hl 0 rfl) ?_
            have ok_7 := And.left hok
            have hok := And.right hok
            have hk_8 := And.left hok
            have hok := And.right hok
            refine cc_XM (av := [.ref p2, .ref (xe σw_3 2 (ix w4_3))]) (b := (x + 5)) (N := 0) (Or.inr (fun _ => rfl)) C hE hM (k_X2_isOfBegins l D a x e0 A σw_3 (x + 5) p2 (xe σw_3 2 (ix w4_3)) ok_7) cw_X10_392 (okR_of hRf hRl (Nat.le_of_ble_eq_true rfl) (Nat.le_of_ble_eq_true rfl)) (xr_at (K := 3) C hM hk_8 (by decide) rfl) rfl rfl hl.1 (Nat.le_of_ble_eq_true rfl) (Nat.zero_le _) (Nat.zero_le _) dX10_addPlaces_58 (fun H locs hM => ?_)
            exact J_l3_61 w4_3 (xe σw_3 2 (ix w4_3)) ((f_X2_isOfBegins σw_3 (x + 5) p2 (xe σw_3 2 (ix w4_3))).1) ((f_X2_isOfBegins σw_3 (x + 5) p2 (xe σw_3 2 (ix w4_3))).2) hf hok _ _ ls hM (lv_sub hl [1, 2, 3, 4, 5, 0] rfl)
    · have hok := And.right hok
      intro H locs ls hM hl
      exact J_95 ((itr (s_X10_addPlaces_3 x p1 p2 p3) FU (v4_3, σ_3)).2) hf _ _ ls hM (lv_sub hl [] rfl)
  refine lv_iconst (v := 0) hx hb dX10_addPlaces_0 (by decide) ?_
  refine lv_istore (lv' := [(4, .int 0), (0, .ref x), (1, .ref p1), (2, .ref p2), (3, .int p3)]) hx hb dX10_addPlaces_1 hl (by decide) rfl (fun ls hl => ?_)
  exact J_3 0 σ hf hok _ _ ls hM (lv_sub hl [1, 2, 3, 4, 0] rfl)
def f_X10_gatherInto_l9_69 (x : Nat) (p1 : Nat) (p2 : Int32) (v3_9 : Int64) (w5_9 : Int32) (σw_9 : XS) (v5_69 : Int32) (σ_69 : XS) : Bool × (Int32 × XS) := (true, ((v5_69 + 1), σ_69))
def f_X10_gatherInto_l9_60 (x : Nat) (p1 : Nat) (p2 : Int32) (v3_9 : Int64) (w5_9 : Int32) (σw_9 : XS) (v5_60 : Int32) (v6_60 : Nat) (σ_60 : XS) : Bool × (Int32 × XS) := (f_X10_gatherInto_l9_69 x p1 p2 v3_9 w5_9 σw_9 v5_60 ((f_X10_addPlaces σ_60 x p1 v6_60 v5_60).2))
def of_X10_gatherInto_l9_60 (x : Nat) (p1 : Nat) (p2 : Int32) (v3_9 : Int64) (w5_9 : Int32) (σw_9 : XS) (v5_60 : Int32) (v6_60 : Nat) (σ_60 : XS) : Prop := (of_X10_addPlaces σ_60 x p1 v6_60 v5_60 ∧ True)
def b_X10_gatherInto_9 (x : Nat) (p1 : Nat) (p2 : Int32) (v3_9 : Int64) (w5_9 : Int32) (σw_9 : XS) : Bool × (Int32 × XS) := (if (nI (xn σw_9 2)) ≤ w5_9 then (false, (w5_9, σw_9)) else (if (f_X10_holds v3_9 w5_9) = 0 then (f_X10_gatherInto_l9_69 x p1 p2 v3_9 w5_9 σw_9 w5_9 σw_9) else (f_X10_gatherInto_l9_60 x p1 p2 v3_9 w5_9 σw_9 w5_9 (xe σw_9 2 (ix w5_9)) ((f_X4_add (xI σw_9 150 (xe σw_9 2 (ix w5_9)) p2) p1 (xe σw_9 2 (ix w5_9))).2))))
def ob_X10_gatherInto_9 (x : Nat) (p1 : Nat) (p2 : Int32) (v3_9 : Int64) (w5_9 : Int32) (σw_9 : XS) : Prop := (oif ((nI (xn σw_9 2)) ≤ w5_9) True (oif ((f_X10_holds v3_9 w5_9) = 0) True (vp_in w5_9 (xn σw_9 2) ∧ ((xk σw_9 (xe σw_9 2 (ix w5_9))) = 7 ∧ (of_X4_add (xI σw_9 150 (xe σw_9 2 (ix w5_9)) p2) p1 (xe σw_9 2 (ix w5_9)) ∧ ((xk σw_9 p1) = 5 ∧ (of_X10_gatherInto_l9_60 x p1 p2 v3_9 w5_9 σw_9 w5_9 (xe σw_9 2 (ix w5_9)) ((f_X4_add (xI σw_9 150 (xe σw_9 2 (ix w5_9)) p2) p1 (xe σw_9 2 (ix w5_9))).2))))))))
def s_X10_gatherInto_9 (x : Nat) (p1 : Nat) (p2 : Int32) (v3_9 : Int64) (v : Int32 × XS) : Bool × (Int32 × XS) := b_X10_gatherInto_9 x p1 p2 v3_9 v.1 v.2
def os_X10_gatherInto_9 (x : Nat) (p1 : Nat) (p2 : Int32) (v3_9 : Int64) (v : Int32 × XS) : Prop := ob_X10_gatherInto_9 x p1 p2 v3_9 v.1 v.2
def f_X10_gatherInto_75 (σ : XS) (x : Nat) (p1 : Nat) (p2 : Int32) (σ_75 : XS) : Unit × XS := ((), (f_X4_settle σ_75 p1).2)
def of_X10_gatherInto_75 (σ : XS) (x : Nat) (p1 : Nat) (p2 : Int32) (σ_75 : XS) : Prop := (of_X4_settle σ_75 p1 ∧ ((xk σ_75 p1) = 5 ∧ True))
def f_X10_gatherInto_9 (σ : XS) (x : Nat) (p1 : Nat) (p2 : Int32) (v3_9 : Int64) (v5_9 : Int32) (σ_9 : XS) : Unit × XS := (f_X10_gatherInto_75 σ x p1 p2 ((itr (s_X10_gatherInto_9 x p1 p2 v3_9) FU (v5_9, σ_9)).2))
def of_X10_gatherInto_9 (σ : XS) (x : Nat) (p1 : Nat) (p2 : Int32) (v3_9 : Int64) (v5_9 : Int32) (σ_9 : XS) : Prop := (ito (s_X10_gatherInto_9 x p1 p2 v3_9) (os_X10_gatherInto_9 x p1 p2 v3_9) FU (v5_9, σ_9) ∧ (of_X10_gatherInto_75 σ x p1 p2 ((itr (s_X10_gatherInto_9 x p1 p2 v3_9) FU (v5_9, σ_9)).2)))
def f_X10_gatherInto (σ : XS) (x : Nat) (p1 : Nat) (p2 : Int32) : Unit × XS := (f_X10_gatherInto_9 σ x p1 p2 (f_X10_groupOf σ x p2) 0 σ)
def of_X10_gatherInto (σ : XS) (x : Nat) (p1 : Nat) (p2 : Int32) : Prop := (of_X10_groupOf σ x p2 ∧ (of_X10_gatherInto_9 σ x p1 p2 (f_X10_groupOf σ x p2) 0 σ))
set_option maxHeartbeats 4000000 in
set_option maxRecDepth 100000 in
theorem k_X10_gatherInto (l : Launch) (D : va_G) (a : Nat → ClassId) (x : Nat) (e0 : Nat) (A : Nat → Prop) (σ : XS) (p1 : Nat) (p2 : Int32) (hok : of_X10_gatherInto σ x p1 p2) : KX l D a x e0 A yX10_gatherInto cX10_gatherInto 7 none 4 108 0 0 [.ref x, .ref p1, .int p2] σ (fun _ => none) (fun _ => f_X10_gatherInto σ x p1 p2) := by
  refine goXv (by decide +kernel) (Nat.le_of_ble_eq_true rfl) ?_
  intro p e s m args below meth c ls R Q nq hRf hRl hRc hRs hnq C hE hM hl hmn ret
  have hl : lv_has ls 7 [(0, .ref x), (1, .ref p1), (2, .int p2)] := hl
  have hx := C.1.1
  have hb := C.1.2.1
  have hts := C.1.2.2.2.2
  have hown := C.1.2.2.2.1
  have hf : (f_X10_gatherInto σ x p1 p2) = (f_X10_gatherInto σ x p1 p2) := rfl
  have J_75 : ∀ (σ_75 : XS), (f_X10_gatherInto σ x p1 p2) = f_X10_gatherInto_75 σ x p1 p2 σ_75 → of_X10_gatherInto_75 σ x p1 p2 σ_75 → ∀ (H : Heap) (locs : List Loc) (ls : Array Slot), HX D a x e0 A σ_75 s.heap H locs → lv_has ls 7 [(1, .ref p1)] → W p l e R s m args below meth c H locs 0 0 Q (F0 m 75 ls []) := by
    intro σ_75 hf hok H locs ls hM hl
    refine lv_aload_n hx hb dX10_gatherInto_75 rfl (lv_at hl 0 rfl) ?_
    have ok_9 := And.left hok
    have hok := And.right hok
    have hk_10 := And.left hok
    have hok := And.right hok
    refine cc_XM (av := []) (b := p1) (N := 0) (Or.inr (fun _ => rfl)) C hE hM (k_X4_settle l D a x e0 A σ_75 p1 ok_9) cw_X10_412 (okR_of hRf hRl (Nat.le_of_ble_eq_true rfl) (Nat.le_of_ble_eq_true rfl)) (xr_at (K := 5) C hM hk_10 (by decide) rfl) rfl rfl hl.1 (Nat.le_of_ble_eq_true rfl) (Nat.zero_le _) (Nat.zero_le _) dX10_gatherInto_76 (fun H locs hM => ?_)
    exact ret _ _ _ _ _ hM dX10_gatherInto_79 hf
  have J_9 : ∀ (v3_9 : Int64) (v5_9 : Int32) (σ_9 : XS), (f_X10_gatherInto σ x p1 p2) = f_X10_gatherInto_9 σ x p1 p2 v3_9 v5_9 σ_9 → of_X10_gatherInto_9 σ x p1 p2 v3_9 v5_9 σ_9 → ∀ (H : Heap) (locs : List Loc) (ls : Array Slot), HX D a x e0 A σ_9 s.heap H locs → lv_has ls 7 [(0, .ref x), (1, .ref p1), (2, .int p2), (3, .long v3_9), (5, .int v5_9)] → W p l e R s m args below meth c H locs 0 0 Q (F0 m 9 ls []) := by
    intro v3_9 v5_9 σ_9 hf hok H locs ls hM hl
    refine itr_W (f := (s_X10_gatherInto_9 x p1 p2 v3_9)) (o := (os_X10_gatherInto_9 x p1 p2 v3_9)) (fun (v : Int32 × XS) => ∀ (H : Heap) (locs : List Loc) (ls : Array Slot), HX D a x e0 A v.2 s.heap H locs → lv_has ls 7 [(0, .ref x), (1, .ref p1), (2, .int p2), (3, .long v3_9), (5, .int v.1)] → W p l e R s m args below meth c H locs 0 0 Q (F0 m 9 ls [])) (fun (v : Int32 × XS) => ∀ (H : Heap) (locs : List Loc) (ls : Array Slot), HX D a x e0 A v.2 s.heap H locs → lv_has ls 7 [(1, .ref p1)] → W p l e R s m args below meth c H locs 0 0 Q (F0 m 75 ls [])) ?_ FU (v5_9, σ_9) (And.left hok) ?_ _ _ ls hM (lv_sub hl [0, 1, 2, 3, 4] rfl)
    · intro v hov kc ke
      obtain ⟨w5_9, σw_9⟩ := v
      have hok : ob_X10_gatherInto_9 x p1 p2 v3_9 w5_9 σw_9 := hov
      change ∀ v', (b_X10_gatherInto_9 x p1 p2 v3_9 w5_9 σw_9) = (true, v') → _ at kc
      change ∀ v', (b_X10_gatherInto_9 x p1 p2 v3_9 w5_9 σw_9) = (false, v') → _ at ke
      have hf : (b_X10_gatherInto_9 x p1 p2 v3_9 w5_9 σw_9) = (b_X10_gatherInto_9 x p1 p2 v3_9 w5_9 σw_9) := rfl
      intro H locs ls hM hl
      have J_l9_69 : ∀ (v5_69 : Int32) (σ_69 : XS), (b_X10_gatherInto_9 x p1 p2 v3_9 w5_9 σw_9) = f_X10_gatherInto_l9_69 x p1 p2 v3_9 w5_9 σw_9 v5_69 σ_69 → ∀ (H : Heap) (locs : List Loc) (ls : Array Slot), HX D a x e0 A σ_69 s.heap H locs → lv_has ls 7 [(0, .ref x), (1, .ref p1), (2, .int p2), (3, .long v3_9), (5, .int v5_69)] → W p l e R s m args below meth c H locs 0 0 Q (F0 m 69 ls []) := by
        intro v5_69 σ_69 hf H locs ls hM hl
        refine lv_iinc (v := (v5_69 + 1)) (lv' := [(5, .int (v5_69 + 1)), (0, .ref x), (1, .ref p1), (2, .int p2), (3, .long v3_9)]) hx hb dX10_gatherInto_69 hl (k := 4) rfl rfl (by decide) rfl (fun ls hl => ?_)
        refine lv_goto (tgt := 9) hx hb dX10_gatherInto_72 (by decide) ?_
        exact kc ((v5_69 + 1), σ_69) hf H locs ls hM (lv_sub hl [1, 2, 3, 4, 0] rfl)
      have J_l9_60 : ∀ (v5_60 : Int32) (v6_60 : Nat) (σ_60 : XS), (b_X10_gatherInto_9 x p1 p2 v3_9 w5_9 σw_9) = f_X10_gatherInto_l9_60 x p1 p2 v3_9 w5_9 σw_9 v5_60 v6_60 σ_60 → of_X10_gatherInto_l9_60 x p1 p2 v3_9 w5_9 σw_9 v5_60 v6_60 σ_60 → ∀ (H : Heap) (locs : List Loc) (ls : Array Slot), HX D a x e0 A σ_60 s.heap H locs → lv_has ls 7 [(0, .ref x), (1, .ref p1), (2, .int p2), (3, .long v3_9), (5, .int v5_60), (6, .ref v6_60)] → W p l e R s m args below meth c H locs 0 0 Q (F0 m 60 ls []) := by
        intro v5_60 v6_60 σ_60 hf hok H locs ls hM hl
        refine lv_aload_n hx hb dX10_gatherInto_60 rfl (lv_at hl 0 rfl) ?_
        refine lv_aload_n hx hb dX10_gatherInto_61 rfl (lv_at hl 1 rfl) ?_
        refine lv_aload hx hb dX10_gatherInto_62 (lv_at hl 5 rfl) ?_
        refine lv_iload hx hb dX10_gatherInto_64 (lv_at hl 4 rfl) ?_
        have ok_8 := And.left hok
        have hok := And.right hok
        refine cc_XM (av := [.ref p1, .ref v6_60, .int v5_60]) (b := x) (N := 0) (Or.inr (fun _ => rfl)) C hE hM (k_X10_addPlaces l D a x e0 A σ_60 p1 v6_60 v5_60 ok_8) cw_X10_408 (okR_of hRf hRl (Nat.le_of_ble_eq_true rfl) (Nat.le_of_ble_eq_true rfl)) (xr_net C hM) rfl rfl hl.1 (Nat.le_of_ble_eq_true rfl) (Nat.zero_le _) (Nat.zero_le _) dX10_gatherInto_66 (fun H locs hM => ?_)
        exact J_l9_69 v5_60 ((f_X10_addPlaces σ_60 x p1 v6_60 v5_60).2) hf _ _ ls hM (lv_sub hl [0, 1, 2, 3, 4] rfl)
      refine lv_iload hx hb dX10_gatherInto_9 (lv_at hl 4 rfl) ?_
      refine lv_aload_n hx hb dX10_gatherInto_11 rfl (lv_at hl 0 rfl) ?_
      refine xt_sightings C hM dX10_gatherInto_12 ?_
      refine xl_size (j := 2) C hE hM (by decide) hRf hRl (Nat.le_of_ble_eq_true rfl) (Nat.le_of_ble_eq_true rfl) hl.1 (Nat.le_of_ble_eq_true rfl) (Nat.zero_le _) (Nat.zero_le _) dX10_gatherInto_15 ?_
      refine lv_icmp_ge (tgt := 75) hx hb dX10_gatherInto_20 (by decide) (fun c_2 => ?_) (fun c_2 => ?_)
      · have hf := hf.trans (if_pos c_2)
        have hok := oif_pos hok c_2
        exact ke (w5_9, σw_9) hf H locs ls hM (lv_sub hl [1] rfl)
      · have hf := hf.trans (if_neg c_2)
        have hok := oif_neg hok c_2
        refine lv_lload_n hx hb dX10_gatherInto_23 rfl (lv_at hl 3 rfl) ?_
        refine lv_iload hx hb dX10_gatherInto_24 (lv_at hl 4 rfl) ?_
        refine cc_S (av := [.long v3_9, .int w5_9]) C (k_X10_holds l D a v3_9 w5_9) cw_X10_401 (okR_of hRf hRl (Nat.le_of_ble_eq_true rfl) (Nat.le_of_ble_eq_true rfl)) rfl rfl hl.1 (Nat.le_of_ble_eq_true rfl) (Nat.zero_le _) (Nat.zero_le _) dX10_gatherInto_26 ?_
        refine lv_if_eq (tgt := 69) hx hb dX10_gatherInto_29 (by decide) (fun c_3 => ?_) (fun c_3 => ?_)
        · have hf := hf.trans (if_pos c_3)
          have hok := oif_pos hok c_3
          exact J_l9_69 w5_9 σw_9 hf _ _ ls hM (lv_sub hl [0, 1, 2, 3, 4] rfl)
        · have hf := hf.trans (if_neg c_3)
          have hok := oif_neg hok c_3
          refine lv_aload_n hx hb dX10_gatherInto_32 rfl (lv_at hl 0 rfl) ?_
          refine xt_sightings C hM dX10_gatherInto_33 ?_
          refine lv_iload hx hb dX10_gatherInto_36 (lv_at hl 4 rfl) ?_
          have ok_4 := And.left hok
          have hok := And.right hok
          refine xl_get (j := 2) C hE hM (by decide) ok_4 hRf hRl (Nat.le_of_ble_eq_true rfl) (Nat.le_of_ble_eq_true rfl) hl.1 (Nat.le_of_ble_eq_true rfl) (Nat.zero_le _) (Nat.zero_le _) dX10_gatherInto_38 ?_
          have hk_5 := And.left hok
          have hok := And.right hok
          refine xcast (K := 7) C (xat_7 hM hk_5) rfl q_458 dX10_gatherInto_43 ?_
          refine lv_astore (lv' := [(6, .ref (xe σw_9 2 (ix w5_9))), (0, .ref x), (1, .ref p1), (2, .int p2), (3, .long v3_9), (5, .int w5_9)]) hx hb dX10_gatherInto_46 hl (by decide) rfl (fun ls hl => ?_)
          refine lv_aload hx hb dX10_gatherInto_48 (lv_at hl 0 rfl) ?_
          refine lv_iload_n hx hb dX10_gatherInto_50 rfl (lv_at hl 3 rfl) ?_
          refine xp_X10_177 C hM hk_5 dX10_gatherInto_51 (fun H locs hM => ?_)
          refine lv_aload_n hx hb dX10_gatherInto_54 rfl (lv_at hl 2 rfl) ?_
          refine lv_aload hx hb dX10_gatherInto_55 (lv_at hl 0 rfl) ?_
          have ok_6 := And.left hok
          have hok := And.right hok
          have hk_7 := And.left hok
          have hok := And.right hok
          refine cc_XM (av := [.ref (xe σw_9 2 (ix w5_9))]) (b := p1) (N := 0) (Or.inr (fun _ => rfl)) C hE hM (k_X4_add l D a x e0 A (xI σw_9 150 (xe σw_9 2 (ix w5_9)) p2) p1 (xe σw_9 2 (ix w5_9)) ok_6) cw_X10_405 (okR_of hRf hRl (Nat.le_of_ble_eq_true rfl) (Nat.le_of_ble_eq_true rfl)) (xr_at (K := 5) C hM hk_7 (by decide) rfl) rfl rfl hl.1 (Nat.le_of_ble_eq_true rfl) (Nat.zero_le _) (Nat.zero_le _) dX10_gatherInto_57 (fun H locs hM => ?_)
          exact J_l9_60 w5_9 (xe σw_9 2 (ix w5_9)) ((f_X4_add (xI σw_9 150 (xe σw_9 2 (ix w5_9)) p2) p1 (xe σw_9 2 (ix w5_9))).2) hf hok _ _ ls hM (lv_sub hl [1, 2, 3, 4, 5, 0] rfl)
    · have hok := And.right hok
      intro H locs ls hM hl
      exact J_75 ((itr (s_X10_gatherInto_9 x p1 p2 v3_9) FU (v5_9, σ_9)).2) hf hok _ _ ls hM (lv_sub hl [0] rfl)
  refine lv_aload_n hx hb dX10_gatherInto_0 rfl (lv_at hl 0 rfl) ?_
  refine lv_iload_n hx hb dX10_gatherInto_1 rfl (lv_at hl 2 rfl) ?_
  have ok_1 := And.left hok
  have hok := And.right hok
  refine cc_X (av := [.int p2]) (b := x) C hE hM (k_X10_groupOf l D a x e0 A σ p2 ok_1) cw_X10_398 (okR_of hRf hRl (Nat.le_of_ble_eq_true rfl) (Nat.le_of_ble_eq_true rfl)) (xr_net C hM) rfl rfl hl.1 (Nat.le_of_ble_eq_true rfl) (Nat.zero_le _) (Nat.zero_le _) dX10_gatherInto_2 ?_
  refine lv_lstore_n (lv' := [(3, .long (f_X10_groupOf σ x p2)), (0, .ref x), (1, .ref p1), (2, .int p2)]) hx hb dX10_gatherInto_5 rfl hl (by decide) rfl (fun ls hl => ?_)
  refine lv_iconst (v := 0) hx hb dX10_gatherInto_6 (by decide) ?_
  refine lv_istore (lv' := [(5, .int 0), (3, .long (f_X10_groupOf σ x p2)), (0, .ref x), (1, .ref p1), (2, .int p2)]) hx hb dX10_gatherInto_7 hl (by decide) rfl (fun ls hl => ?_)
  exact J_9 (f_X10_groupOf σ x p2) 0 σ hf hok _ _ ls hM (lv_sub hl [2, 3, 4, 1, 0] rfl)
def f_X10_gatherFireballs_l2_31 (x : Nat) (w1_2 : Int32) (σw_2 : XS) (v1_31 : Int32) (σ_31 : XS) : Bool × (Int32 × XS) := (true, ((v1_31 + 1), σ_31))
def b_X10_gatherFireballs_2 (x : Nat) (w1_2 : Int32) (σw_2 : XS) : Bool × (Int32 × XS) := (if (nI (xn σw_2 3)) ≤ w1_2 then (false, (w1_2, σw_2)) else (f_X10_gatherFireballs_l2_31 x w1_2 σw_2 w1_2 ((f_X4_clear σw_2 (xe σw_2 3 (ix w1_2))).2)))
def ob_X10_gatherFireballs_2 (x : Nat) (w1_2 : Int32) (σw_2 : XS) : Prop := (oif ((nI (xn σw_2 3)) ≤ w1_2) True (vp_in w1_2 (xn σw_2 3) ∧ ((xk σw_2 (xe σw_2 3 (ix w1_2))) = 5 ∧ (of_X4_clear σw_2 (xe σw_2 3 (ix w1_2)) ∧ True))))
def s_X10_gatherFireballs_2 (x : Nat) (v : Int32 × XS) : Bool × (Int32 × XS) := b_X10_gatherFireballs_2 x v.1 v.2
def os_X10_gatherFireballs_2 (x : Nat) (v : Int32 × XS) : Prop := ob_X10_gatherFireballs_2 x v.1 v.2
def f_X10_gatherFireballs_l43_118 (x : Nat) (w1_43 : Int32) (σw_43 : XS) (v1_118 : Int32) (σ_118 : XS) : Bool × (Int32 × XS) := (true, ((v1_118 + 1), σ_118))
def b_X10_gatherFireballs_43 (x : Nat) (w1_43 : Int32) (σw_43 : XS) : Bool × (Int32 × XS) := (if (nI (xn σw_43 2)) ≤ w1_43 then (false, (w1_43, σw_43)) else (if (lg_cmp (xj σw_43 149 (xe σw_43 2 (ix w1_43))) 0) = 0 then (f_X10_gatherFireballs_l43_118 x w1_43 σw_43 w1_43 σw_43) else (if (xi σw_43 150 (xe σw_43 2 (ix w1_43))) = (-1) then (if (nI (xn σw_43 3)) ≤ w1_43 then (f_X10_gatherFireballs_l43_118 x w1_43 σw_43 w1_43 σw_43) else (f_X10_gatherFireballs_l43_118 x w1_43 σw_43 w1_43 ((f_X10_gatherInto σw_43 x (xe σw_43 3 (ix w1_43)) w1_43).2))) else (f_X10_gatherFireballs_l43_118 x w1_43 σw_43 w1_43 σw_43))))
def ob_X10_gatherFireballs_43 (x : Nat) (w1_43 : Int32) (σw_43 : XS) : Prop := (oif ((nI (xn σw_43 2)) ≤ w1_43) True (vp_in w1_43 (xn σw_43 2) ∧ ((xk σw_43 (xe σw_43 2 (ix w1_43))) = 7 ∧ (oif ((lg_cmp (xj σw_43 149 (xe σw_43 2 (ix w1_43))) 0) = 0) True (oif ((xi σw_43 150 (xe σw_43 2 (ix w1_43))) = (-1)) (oif ((nI (xn σw_43 3)) ≤ w1_43) True (vp_in w1_43 (xn σw_43 3) ∧ ((xk σw_43 (xe σw_43 3 (ix w1_43))) = 5 ∧ (of_X10_gatherInto σw_43 x (xe σw_43 3 (ix w1_43)) w1_43 ∧ True)))) True)))))
def s_X10_gatherFireballs_43 (x : Nat) (v : Int32 × XS) : Bool × (Int32 × XS) := b_X10_gatherFireballs_43 x v.1 v.2
def os_X10_gatherFireballs_43 (x : Nat) (v : Int32 × XS) : Prop := ob_X10_gatherFireballs_43 x v.1 v.2
def f_X10_gatherFireballs_124 (σ : XS) (x : Nat) (σ_124 : XS) : Unit × XS := ((), σ_124)
def f_X10_gatherFireballs_43 (σ : XS) (x : Nat) (v1_43 : Int32) (σ_43 : XS) : Unit × XS := (f_X10_gatherFireballs_124 σ x ((itr (s_X10_gatherFireballs_43 x) FU (v1_43, σ_43)).2))
def of_X10_gatherFireballs_43 (σ : XS) (x : Nat) (v1_43 : Int32) (σ_43 : XS) : Prop := (ito (s_X10_gatherFireballs_43 x) (os_X10_gatherFireballs_43 x) FU (v1_43, σ_43) ∧ True)
def f_X10_gatherFireballs_41 (σ : XS) (x : Nat) (σ_41 : XS) : Unit × XS := (f_X10_gatherFireballs_43 σ x 0 σ_41)
def of_X10_gatherFireballs_41 (σ : XS) (x : Nat) (σ_41 : XS) : Prop := (of_X10_gatherFireballs_43 σ x 0 σ_41)
def f_X10_gatherFireballs_37 (σ : XS) (x : Nat) (σ_37 : XS) : Unit × XS := (f_X10_gatherFireballs_41 σ x ((f_X10_joinSightings σ_37 x).2))
def of_X10_gatherFireballs_37 (σ : XS) (x : Nat) (σ_37 : XS) : Prop := (of_X10_joinSightings σ_37 x ∧ (of_X10_gatherFireballs_41 σ x ((f_X10_joinSightings σ_37 x).2)))
def f_X10_gatherFireballs_2 (σ : XS) (x : Nat) (v1_2 : Int32) (σ_2 : XS) : Unit × XS := (f_X10_gatherFireballs_37 σ x ((itr (s_X10_gatherFireballs_2 x) FU (v1_2, σ_2)).2))
def of_X10_gatherFireballs_2 (σ : XS) (x : Nat) (v1_2 : Int32) (σ_2 : XS) : Prop := (ito (s_X10_gatherFireballs_2 x) (os_X10_gatherFireballs_2 x) FU (v1_2, σ_2) ∧ (of_X10_gatherFireballs_37 σ x ((itr (s_X10_gatherFireballs_2 x) FU (v1_2, σ_2)).2)))
def f_X10_gatherFireballs (σ : XS) (x : Nat) : Unit × XS := (f_X10_gatherFireballs_2 σ x 0 σ)
def of_X10_gatherFireballs (σ : XS) (x : Nat) : Prop := (of_X10_gatherFireballs_2 σ x 0 σ)
set_option maxHeartbeats 4000000 in
set_option maxRecDepth 100000 in
theorem k_X10_gatherFireballs (l : Launch) (D : va_G) (a : Nat → ClassId) (x : Nat) (e0 : Nat) (A : Nat → Prop) (σ : XS) (hok : of_X10_gatherFireballs σ x) : KX l D a x e0 A yX10_gatherFireballs cX10_gatherFireballs 3 none 5 134 0 0 [.ref x] σ (fun _ => none) (fun _ => f_X10_gatherFireballs σ x) := by
  refine goXv (by decide +kernel) (Nat.le_of_ble_eq_true rfl) ?_
  intro p e s m args below meth c ls R Q nq hRf hRl hRc hRs hnq C hE hM hl hmn ret
  have hl : lv_has ls 3 [(0, .ref x)] := hl
  have hx := C.1.1
  have hb := C.1.2.1
  have hts := C.1.2.2.2.2
  have hown := C.1.2.2.2.1
  have hf : (f_X10_gatherFireballs σ x) = (f_X10_gatherFireballs σ x) := rfl
  have J_124 : ∀ (σ_124 : XS), (f_X10_gatherFireballs σ x) = f_X10_gatherFireballs_124 σ x σ_124 → ∀ (H : Heap) (locs : List Loc) (ls : Array Slot), HX D a x e0 A σ_124 s.heap H locs → lv_has ls 3 [] → W p l e R s m args below meth c H locs 0 0 Q (F0 m 124 ls []) := by
    intro σ_124 hf H locs ls hM hl
    exact ret _ _ _ _ _ hM dX10_gatherFireballs_124 hf
  have J_43 : ∀ (v1_43 : Int32) (σ_43 : XS), (f_X10_gatherFireballs σ x) = f_X10_gatherFireballs_43 σ x v1_43 σ_43 → of_X10_gatherFireballs_43 σ x v1_43 σ_43 → ∀ (H : Heap) (locs : List Loc) (ls : Array Slot), HX D a x e0 A σ_43 s.heap H locs → lv_has ls 3 [(0, .ref x), (1, .int v1_43)] → W p l e R s m args below meth c H locs 0 0 Q (F0 m 43 ls []) := by
    intro v1_43 σ_43 hf hok H locs ls hM hl
    refine itr_W (f := (s_X10_gatherFireballs_43 x)) (o := (os_X10_gatherFireballs_43 x)) (fun (v : Int32 × XS) => ∀ (H : Heap) (locs : List Loc) (ls : Array Slot), HX D a x e0 A v.2 s.heap H locs → lv_has ls 3 [(0, .ref x), (1, .int v.1)] → W p l e R s m args below meth c H locs 0 0 Q (F0 m 43 ls [])) (fun (v : Int32 × XS) => ∀ (H : Heap) (locs : List Loc) (ls : Array Slot), HX D a x e0 A v.2 s.heap H locs → lv_has ls 3 [] → W p l e R s m args below meth c H locs 0 0 Q (F0 m 124 ls [])) ?_ FU (v1_43, σ_43) (And.left hok) ?_ _ _ ls hM (lv_sub hl [0, 1] rfl)
    · intro v hov kc ke
      obtain ⟨w1_43, σw_43⟩ := v
      have hok : ob_X10_gatherFireballs_43 x w1_43 σw_43 := hov
      change ∀ v', (b_X10_gatherFireballs_43 x w1_43 σw_43) = (true, v') → _ at kc
      change ∀ v', (b_X10_gatherFireballs_43 x w1_43 σw_43) = (false, v') → _ at ke
      have hf : (b_X10_gatherFireballs_43 x w1_43 σw_43) = (b_X10_gatherFireballs_43 x w1_43 σw_43) := rfl
      intro H locs ls hM hl
      have J_l43_118 : ∀ (v1_118 : Int32) (σ_118 : XS), (b_X10_gatherFireballs_43 x w1_43 σw_43) = f_X10_gatherFireballs_l43_118 x w1_43 σw_43 v1_118 σ_118 → ∀ (H : Heap) (locs : List Loc) (ls : Array Slot), HX D a x e0 A σ_118 s.heap H locs → lv_has ls 3 [(0, .ref x), (1, .int v1_118)] → W p l e R s m args below meth c H locs 0 0 Q (F0 m 118 ls []) := by
        intro v1_118 σ_118 hf H locs ls hM hl
        refine lv_iinc (v := (v1_118 + 1)) (lv' := [(1, .int (v1_118 + 1)), (0, .ref x)]) hx hb dX10_gatherFireballs_118 hl (k := 1) rfl rfl (by decide) rfl (fun ls hl => ?_)
        refine lv_goto (tgt := 43) hx hb dX10_gatherFireballs_121 (by decide) ?_
        exact kc ((v1_118 + 1), σ_118) hf H locs ls hM (lv_sub hl [1, 0] rfl)
      refine lv_iload_n hx hb dX10_gatherFireballs_43 rfl (lv_at hl 1 rfl) ?_
      refine lv_aload_n hx hb dX10_gatherFireballs_44 rfl (lv_at hl 0 rfl) ?_
      refine xt_sightings C hM dX10_gatherFireballs_45 ?_
      refine xl_size (j := 2) C hE hM (by decide) hRf hRl (Nat.le_of_ble_eq_true rfl) (Nat.le_of_ble_eq_true rfl) hl.1 (Nat.le_of_ble_eq_true rfl) (Nat.zero_le _) (Nat.zero_le _) dX10_gatherFireballs_48 ?_
      refine lv_icmp_ge (tgt := 124) hx hb dX10_gatherFireballs_53 (by decide) (fun c_6 => ?_) (fun c_6 => ?_)
      · have hf := hf.trans (if_pos c_6)
        have hok := oif_pos hok c_6
        exact ke (w1_43, σw_43) hf H locs ls hM (lv_sub hl [] rfl)
      · have hf := hf.trans (if_neg c_6)
        have hok := oif_neg hok c_6
        refine lv_aload_n hx hb dX10_gatherFireballs_56 rfl (lv_at hl 0 rfl) ?_
        refine xt_sightings C hM dX10_gatherFireballs_57 ?_
        refine lv_iload_n hx hb dX10_gatherFireballs_60 rfl (lv_at hl 1 rfl) ?_
        have ok_7 := And.left hok
        have hok := And.right hok
        refine xl_get (j := 2) C hE hM (by decide) ok_7 hRf hRl (Nat.le_of_ble_eq_true rfl) (Nat.le_of_ble_eq_true rfl) hl.1 (Nat.le_of_ble_eq_true rfl) (Nat.zero_le _) (Nat.zero_le _) dX10_gatherFireballs_61 ?_
        have hk_8 := And.left hok
        have hok := And.right hok
        refine xcast (K := 7) C (xat_7 hM hk_8) rfl q_458 dX10_gatherFireballs_66 ?_
        refine lv_astore_n (lv' := [(2, .ref (xe σw_43 2 (ix w1_43))), (0, .ref x), (1, .int w1_43)]) hx hb dX10_gatherFireballs_69 rfl hl (by decide) rfl (fun ls hl => ?_)
        refine lv_aload_n hx hb dX10_gatherFireballs_70 rfl (lv_at hl 0 rfl) ?_
        refine xg_X10_180 C hM hk_8 dX10_gatherFireballs_71 ?_
        refine lv_lconst (v := 0) hx hb dX10_gatherFireballs_74 (by decide) ?_
        refine W.lcmp hx hb dX10_gatherFireballs_75 ?_
        refine lv_if_eq (tgt := 118) hx hb dX10_gatherFireballs_76 (by decide) (fun c_9 => ?_) (fun c_9 => ?_)
        · have hf := hf.trans (if_pos c_9)
          have hok := oif_pos hok c_9
          exact J_l43_118 w1_43 σw_43 hf _ _ ls hM (lv_sub hl [1, 2] rfl)
        · have hf := hf.trans (if_neg c_9)
          have hok := oif_neg hok c_9
          refine lv_aload_n hx hb dX10_gatherFireballs_79 rfl (lv_at hl 0 rfl) ?_
          refine xg_X10_177 C hM hk_8 dX10_gatherFireballs_80 ?_
          refine lv_iconst (v := (-1)) hx hb dX10_gatherFireballs_83 (by decide) ?_
          refine lv_icmp_ne (tgt := 118) hx hb dX10_gatherFireballs_84 (by decide) (fun c_10 => ?_) (fun c_10 => ?_)
          · have hf := hf.trans (if_neg c_10)
            have hok := oif_neg hok c_10
            exact J_l43_118 w1_43 σw_43 hf _ _ ls hM (lv_sub hl [1, 2] rfl)
          · have hf := hf.trans (if_pos c_10)
            have hok := oif_pos hok c_10
            refine lv_iload_n hx hb dX10_gatherFireballs_87 rfl (lv_at hl 2 rfl) ?_
            refine lv_aload_n hx hb dX10_gatherFireballs_88 rfl (lv_at hl 1 rfl) ?_
            refine xt_rows C hM dX10_gatherFireballs_89 ?_
            refine xl_size (j := 3) C hE hM (by decide) hRf hRl (Nat.le_of_ble_eq_true rfl) (Nat.le_of_ble_eq_true rfl) hl.1 (Nat.le_of_ble_eq_true rfl) (Nat.zero_le _) (Nat.zero_le _) dX10_gatherFireballs_92 ?_
            refine lv_icmp_ge (tgt := 118) hx hb dX10_gatherFireballs_97 (by decide) (fun c_11 => ?_) (fun c_11 => ?_)
            · have hf := hf.trans (if_pos c_11)
              have hok := oif_pos hok c_11
              exact J_l43_118 w1_43 σw_43 hf _ _ ls hM (lv_sub hl [1, 2] rfl)
            · have hf := hf.trans (if_neg c_11)
              have hok := oif_neg hok c_11
              refine lv_aload_n hx hb dX10_gatherFireballs_100 rfl (lv_at hl 1 rfl) ?_
              refine lv_aload_n hx hb dX10_gatherFireballs_101 rfl (lv_at hl 1 rfl) ?_
              refine xt_rows C hM dX10_gatherFireballs_102 ?_
              refine lv_iload_n hx hb dX10_gatherFireballs_105 rfl (lv_at hl 2 rfl) ?_
              have ok_12 := And.left hok
              have hok := And.right hok
              refine xl_get (j := 3) C hE hM (by decide) ok_12 hRf hRl (Nat.le_of_ble_eq_true rfl) (Nat.le_of_ble_eq_true rfl) hl.1 (Nat.le_of_ble_eq_true rfl) (Nat.zero_le _) (Nat.zero_le _) dX10_gatherFireballs_106 ?_
              have hk_13 := And.left hok
              have hok := And.right hok
              refine xcast (K := 5) C (xat_5 hM hk_13) rfl q_120 dX10_gatherFireballs_111 ?_
              refine lv_iload_n hx hb dX10_gatherFireballs_114 rfl (lv_at hl 2 rfl) ?_
              have ok_14 := And.left hok
              have hok := And.right hok
              refine cc_XM (av := [.ref (xe σw_43 3 (ix w1_43)), .int w1_43]) (b := x) (N := 0) (Or.inr (fun _ => rfl)) C hE hM (k_X10_gatherInto l D a x e0 A σw_43 (xe σw_43 3 (ix w1_43)) w1_43 ok_14) cw_X10_380 (okR_of hRf hRl (Nat.le_of_ble_eq_true rfl) (Nat.le_of_ble_eq_true rfl)) (xr_net C hM) rfl rfl hl.1 (Nat.le_of_ble_eq_true rfl) (Nat.zero_le _) (Nat.zero_le _) dX10_gatherFireballs_115 (fun H locs hM => ?_)
              exact J_l43_118 w1_43 ((f_X10_gatherInto σw_43 x (xe σw_43 3 (ix w1_43)) w1_43).2) hf _ _ ls hM (lv_sub hl [1, 2] rfl)
    · have hok := And.right hok
      intro H locs ls hM hl
      exact J_124 ((itr (s_X10_gatherFireballs_43 x) FU (v1_43, σ_43)).2) hf _ _ ls hM (lv_sub hl [] rfl)
  have J_41 : ∀ (σ_41 : XS), (f_X10_gatherFireballs σ x) = f_X10_gatherFireballs_41 σ x σ_41 → of_X10_gatherFireballs_41 σ x σ_41 → ∀ (H : Heap) (locs : List Loc) (ls : Array Slot), HX D a x e0 A σ_41 s.heap H locs → lv_has ls 3 [(0, .ref x)] → W p l e R s m args below meth c H locs 0 0 Q (F0 m 41 ls []) := by
    intro σ_41 hf hok H locs ls hM hl
    refine lv_iconst (v := 0) hx hb dX10_gatherFireballs_41 (by decide) ?_
    refine lv_istore_n (lv' := [(1, .int 0), (0, .ref x)]) hx hb dX10_gatherFireballs_42 rfl hl (by decide) rfl (fun ls hl => ?_)
    exact J_43 0 σ_41 hf hok _ _ ls hM (lv_sub hl [1, 0] rfl)
  have J_37 : ∀ (σ_37 : XS), (f_X10_gatherFireballs σ x) = f_X10_gatherFireballs_37 σ x σ_37 → of_X10_gatherFireballs_37 σ x σ_37 → ∀ (H : Heap) (locs : List Loc) (ls : Array Slot), HX D a x e0 A σ_37 s.heap H locs → lv_has ls 3 [(0, .ref x)] → W p l e R s m args below meth c H locs 0 0 Q (F0 m 37 ls []) := by
    intro σ_37 hf hok H locs ls hM hl
    refine lv_aload_n hx hb dX10_gatherFireballs_37 rfl (lv_at hl 0 rfl) ?_
    have ok_5 := And.left hok
    have hok := And.right hok
    refine cc_XM (av := []) (b := x) (N := 0) (Or.inr (fun _ => rfl)) C hE hM (k_X10_joinSightings l D a x e0 A σ_37 ok_5) cw_X10_377 (okR_of hRf hRl (Nat.le_of_ble_eq_true rfl) (Nat.le_of_ble_eq_true rfl)) (xr_net C hM) rfl rfl hl.1 (Nat.le_of_ble_eq_true rfl) (Nat.zero_le _) (Nat.zero_le _) dX10_gatherFireballs_38 (fun H locs hM => ?_)
    exact J_41 ((f_X10_joinSightings σ_37 x).2) hf hok _ _ ls hM (lv_sub hl [0] rfl)
  have J_2 : ∀ (v1_2 : Int32) (σ_2 : XS), (f_X10_gatherFireballs σ x) = f_X10_gatherFireballs_2 σ x v1_2 σ_2 → of_X10_gatherFireballs_2 σ x v1_2 σ_2 → ∀ (H : Heap) (locs : List Loc) (ls : Array Slot), HX D a x e0 A σ_2 s.heap H locs → lv_has ls 3 [(0, .ref x), (1, .int v1_2)] → W p l e R s m args below meth c H locs 0 0 Q (F0 m 2 ls []) := by
    intro v1_2 σ_2 hf hok H locs ls hM hl
    refine itr_W (f := (s_X10_gatherFireballs_2 x)) (o := (os_X10_gatherFireballs_2 x)) (fun (v : Int32 × XS) => ∀ (H : Heap) (locs : List Loc) (ls : Array Slot), HX D a x e0 A v.2 s.heap H locs → lv_has ls 3 [(0, .ref x), (1, .int v.1)] → W p l e R s m args below meth c H locs 0 0 Q (F0 m 2 ls [])) (fun (v : Int32 × XS) => ∀ (H : Heap) (locs : List Loc) (ls : Array Slot), HX D a x e0 A v.2 s.heap H locs → lv_has ls 3 [(0, .ref x)] → W p l e R s m args below meth c H locs 0 0 Q (F0 m 37 ls [])) ?_ FU (v1_2, σ_2) (And.left hok) ?_ _ _ ls hM (lv_sub hl [0, 1] rfl)
    · intro v hov kc ke
      obtain ⟨w1_2, σw_2⟩ := v
      have hok : ob_X10_gatherFireballs_2 x w1_2 σw_2 := hov
      change ∀ v', (b_X10_gatherFireballs_2 x w1_2 σw_2) = (true, v') → _ at kc
      change ∀ v', (b_X10_gatherFireballs_2 x w1_2 σw_2) = (false, v') → _ at ke
      have hf : (b_X10_gatherFireballs_2 x w1_2 σw_2) = (b_X10_gatherFireballs_2 x w1_2 σw_2) := rfl
      intro H locs ls hM hl
      have J_l2_31 : ∀ (v1_31 : Int32) (σ_31 : XS), (b_X10_gatherFireballs_2 x w1_2 σw_2) = f_X10_gatherFireballs_l2_31 x w1_2 σw_2 v1_31 σ_31 → ∀ (H : Heap) (locs : List Loc) (ls : Array Slot), HX D a x e0 A σ_31 s.heap H locs → lv_has ls 3 [(0, .ref x), (1, .int v1_31)] → W p l e R s m args below meth c H locs 0 0 Q (F0 m 31 ls []) := by
        intro v1_31 σ_31 hf H locs ls hM hl
        refine lv_iinc (v := (v1_31 + 1)) (lv' := [(1, .int (v1_31 + 1)), (0, .ref x)]) hx hb dX10_gatherFireballs_31 hl (k := 1) rfl rfl (by decide) rfl (fun ls hl => ?_)
        refine lv_goto (tgt := 2) hx hb dX10_gatherFireballs_34 (by decide) ?_
        exact kc ((v1_31 + 1), σ_31) hf H locs ls hM (lv_sub hl [1, 0] rfl)
      refine lv_iload_n hx hb dX10_gatherFireballs_2 rfl (lv_at hl 1 rfl) ?_
      refine lv_aload_n hx hb dX10_gatherFireballs_3 rfl (lv_at hl 0 rfl) ?_
      refine xt_rows C hM dX10_gatherFireballs_4 ?_
      refine xl_size (j := 3) C hE hM (by decide) hRf hRl (Nat.le_of_ble_eq_true rfl) (Nat.le_of_ble_eq_true rfl) hl.1 (Nat.le_of_ble_eq_true rfl) (Nat.zero_le _) (Nat.zero_le _) dX10_gatherFireballs_7 ?_
      refine lv_icmp_ge (tgt := 37) hx hb dX10_gatherFireballs_12 (by decide) (fun c_1 => ?_) (fun c_1 => ?_)
      · have hf := hf.trans (if_pos c_1)
        have hok := oif_pos hok c_1
        exact ke (w1_2, σw_2) hf H locs ls hM (lv_sub hl [0] rfl)
      · have hf := hf.trans (if_neg c_1)
        have hok := oif_neg hok c_1
        refine lv_aload_n hx hb dX10_gatherFireballs_15 rfl (lv_at hl 0 rfl) ?_
        refine xt_rows C hM dX10_gatherFireballs_16 ?_
        refine lv_iload_n hx hb dX10_gatherFireballs_19 rfl (lv_at hl 1 rfl) ?_
        have ok_2 := And.left hok
        have hok := And.right hok
        refine xl_get (j := 3) C hE hM (by decide) ok_2 hRf hRl (Nat.le_of_ble_eq_true rfl) (Nat.le_of_ble_eq_true rfl) hl.1 (Nat.le_of_ble_eq_true rfl) (Nat.zero_le _) (Nat.zero_le _) dX10_gatherFireballs_20 ?_
        have hk_3 := And.left hok
        have hok := And.right hok
        refine xcast (K := 5) C (xat_5 hM hk_3) rfl q_120 dX10_gatherFireballs_25 ?_
        have ok_4 := And.left hok
        have hok := And.right hok
        refine cc_XM (av := []) (b := (xe σw_2 3 (ix w1_2))) (N := 0) (Or.inr (fun _ => rfl)) C hE hM (k_X4_clear l D a x e0 A σw_2 (xe σw_2 3 (ix w1_2)) ok_4) cw_X10_374 (okR_of hRf hRl (Nat.le_of_ble_eq_true rfl) (Nat.le_of_ble_eq_true rfl)) (xr_at (K := 5) C hM hk_3 (by decide) rfl) rfl rfl hl.1 (Nat.le_of_ble_eq_true rfl) (Nat.zero_le _) (Nat.zero_le _) dX10_gatherFireballs_28 (fun H locs hM => ?_)
        exact J_l2_31 w1_2 ((f_X4_clear σw_2 (xe σw_2 3 (ix w1_2))).2) hf _ _ ls hM (lv_sub hl [0, 1] rfl)
    · have hok := And.right hok
      intro H locs ls hM hl
      exact J_37 ((itr (s_X10_gatherFireballs_2 x) FU (v1_2, σ_2)).2) hf hok _ _ ls hM (lv_sub hl [0] rfl)
  refine lv_iconst (v := 0) hx hb dX10_gatherFireballs_0 (by decide) ?_
  refine lv_istore_n (lv' := [(1, .int 0), (0, .ref x)]) hx hb dX10_gatherFireballs_1 rfl hl (by decide) rfl (fun ls hl => ?_)
  exact J_2 0 σ hf hok _ _ ls hM (lv_sub hl [1, 0] rfl)
def f_X10_clock (σ : XS) (x : Nat) (p1 : Int32) (p2 : Int32) : Except Nat (Int32 × XS) := (exb (f_X10_existingCamera σ x p1) (fun v9_2 => (exb (f_X10_requireRange p2 (-99) 99) (fun v9_3 => .ok ((xi σ 22 v9_2), (f_X10_gatherFireballs (xI σ 22 v9_2 p2) x).2)))))
def of_X10_clock (σ : XS) (x : Nat) (p1 : Int32) (p2 : Int32) : Prop := (of_X10_existingCamera σ x p1 ∧ (exo (f_X10_existingCamera σ x p1) (fun v9_2 => (exo (f_X10_requireRange p2 (-99) 99) (fun v9_3 => ((xk σ v9_2) = 1 ∧ (of_X10_gatherFireballs (xI σ 22 v9_2 p2) x ∧ True)))))))
set_option maxHeartbeats 4000000 in
set_option maxRecDepth 100000 in
theorem k_X10_clock (l : Launch) (D : va_G) (a : Nat → ClassId) (x : Nat) (e0 : Nat) (A : Nat → Prop) (hfl : l.stackTraces = false) (σ : XS) (p1 : Int32) (p2 : Int32) (hok : of_X10_clock σ x p1 p2) : KTm l D a x e0 A yX10_clock cX10_clock 5 ((some .int)) 7 156 2 12 [.ref x, .int p1, .int p2] σ (fun v => some (.int v)) (fun _ => f_X10_clock σ x p1 p2) := by
  refine goUi hfl rfl (by decide +kernel) (Nat.le_of_ble_eq_true rfl) ?_
  intro p e s m args below meth c ls R Q nq hRf hRl hRc hRs hnq C hE hM hl ret thr out
  have hl : lv_has ls 5 [(0, .ref x), (1, .int p1), (2, .int p2)] := hl
  have hx := C.1.1
  have hb := C.1.2.1
  have hts := C.1.2.2.2.2
  have hown := C.1.2.2.2.1
  have hf : (f_X10_clock σ x p1 p2) = (f_X10_clock σ x p1 p2) := rfl
  refine lv_aload_n hx hb dX10_clock_0 rfl (lv_at hl 0 rfl) ?_
  refine lv_iload_n hx hb dX10_clock_1 rfl (lv_at hl 1 rfl) ?_
  have ok_1 := And.left hok
  have hok := And.right hok
  refine cc_TV (av := [.int p1]) (b := x) C hE hM (k_X10_existingCamera l D a x e0 A hfl σ p1 ok_1) cw_X10_100 (okR_of hRf hRl (Nat.le_of_ble_eq_true rfl) (Nat.le_of_ble_eq_true rfl)) (xr_net C hM) rfl rfl hl.1 (Nat.le_of_ble_eq_true rfl) (by rw [hRc]; exact Nat.le_of_ble_eq_true rfl) (by rw [hRs]; exact Nat.le_of_ble_eq_true rfl) dX10_clock_2 (fun k9 E9 ce9 q9 H9 hF9 z1 z2 z3 z4 z5 z6 => out z1 z2 z3 z4 z5 z6 (Nat.le_of_ble_eq_true rfl) (Nat.le_of_ble_eq_true rfl) (hf.trans (exb_er hF9))) (fun v9_2 hv9_2 => ?_)
  have hf := hf.trans (exb_ok hv9_2)
  have hok := exo_ok hok hv9_2
  refine lv_astore_n (lv' := [(3, .ref v9_2), (0, .ref x), (1, .int p1), (2, .int p2)]) hx hb dX10_clock_5 rfl hl (by decide) rfl (fun ls hl => ?_)
  refine lv_iload_n hx hb dX10_clock_6 rfl (lv_at hl 3 rfl) ?_
  refine lv_bipush (v := (-99)) hx hb dX10_clock_7 (by decide) ?_
  refine lv_bipush (v := 99) hx hb dX10_clock_9 (by decide) ?_
  refine cc_TS (av := [.int p2, .int (-99), .int 99]) C (k_X10_requireRange l D a e0 A hfl p2 (-99) 99) cw_X10_81 (okR_of hRf hRl (Nat.le_of_ble_eq_true rfl) (Nat.le_of_ble_eq_true rfl)) (fun U g mk z q => be_blind g mk z q) (fun U hU hW => EV.at hE va_S.rf hW hU) rfl rfl hl.1 (Nat.le_of_ble_eq_true rfl) (by rw [hRc]; exact Nat.le_of_ble_eq_true rfl) (by rw [hRs]; exact Nat.le_of_ble_eq_true rfl) dX10_clock_11 (fun k9 E9 ce9 q9 H9 hF9 z1 z2 z3 z4 z5 z6 => out z1 z2 z3 z4 z5 z6 (Nat.le_of_ble_eq_true rfl) (Nat.le_of_ble_eq_true rfl) (hf.trans (exb_er hF9))) (fun v9_3 hv9_3 => ?_)
  have hf := hf.trans (exb_ok hv9_3)
  have hok := exo_ok hok hv9_3
  refine lv_aload_n hx hb dX10_clock_14 rfl (lv_at hl 0 rfl) ?_
  have hk_4 := And.left hok
  have hok := And.right hok
  refine xg_X10_104 C hM hk_4 dX10_clock_15 ?_
  refine lv_istore (lv' := [(4, .int (xi σ 22 v9_2)), (3, .ref v9_2), (0, .ref x), (1, .int p1), (2, .int p2)]) hx hb dX10_clock_18 hl (by decide) rfl (fun ls hl => ?_)
  refine lv_aload_n hx hb dX10_clock_20 rfl (lv_at hl 1 rfl) ?_
  refine lv_iload_n hx hb dX10_clock_21 rfl (lv_at hl 4 rfl) ?_
  refine xp_X10_104 C hM hk_4 dX10_clock_22 (fun H locs hM => ?_)
  refine lv_aload_n hx hb dX10_clock_25 rfl (lv_at hl 2 rfl) ?_
  have ok_5 := And.left hok
  have hok := And.right hok
  refine cc_XM (av := []) (b := x) (N := 0) (Or.inr (fun _ => rfl)) C hE hM (k_X10_gatherFireballs l D a x e0 A (xI σ 22 v9_2 p2) ok_5) cw_X10_108 (okR_of hRf hRl (Nat.le_of_ble_eq_true rfl) (Nat.le_of_ble_eq_true rfl)) (xr_net C hM) rfl rfl hl.1 (Nat.le_of_ble_eq_true rfl) (by rw [hRc]; exact Nat.le_of_ble_eq_true rfl) (by rw [hRs]; exact Nat.le_of_ble_eq_true rfl) dX10_clock_26 (fun H locs hM => ?_)
  refine lv_iload hx hb dX10_clock_29 (lv_at hl 0 rfl) ?_
  exact ret _ _ _ _ _ _ hM dX10_clock_31 hf
def f_X10_requireNight (p1 : Int32) : Except Nat (Unit) := (exb (f_X10_requireRange p1 0 3649) (fun v9_1 => .ok ()))
set_option maxHeartbeats 4000000 in
set_option maxRecDepth 100000 in
theorem k_X10_requireNight (l : Launch) (D : va_G) (a : Nat → ClassId) (e0 : Nat) (A : Nat → Prop) (hfl : l.stackTraces = false) (p1 : Int32) : KT0 l yX10_requireNight cX10_requireNight 1 none 7 114 1 6 [.int p1] (BE D a e0 A) (fun _ => none) (f_X10_requireNight p1) := by
  refine goTv (D := D) (a := a) (e0 := e0) (A := A) (fun _ h => h) hfl rfl (by decide +kernel) (Nat.le_of_ble_eq_true rfl) ?_
  intro p e s m args below meth c ls R Q hRf hRl hRc hRs C hB hl ret thr out
  have hE := hB
  have hl : lv_has ls 1 [(0, .int p1)] := hl
  have hx := C.1.1
  have hb := C.1.2.1
  have hts := C.1.2.2.2.2
  have hown := C.1.2.2.2.1
  have hf : (f_X10_requireNight p1) = (f_X10_requireNight p1) := rfl
  refine lv_iload_n hx hb dX10_requireNight_0 rfl (lv_at hl 0 rfl) ?_
  refine lv_iconst (v := 0) hx hb dX10_requireNight_1 (by decide) ?_
  refine lv_sipush (v := 3649) hx hb dX10_requireNight_2 (by decide) ?_
  refine cc_TS (av := [.int p1, .int 0, .int 3649]) C (k_X10_requireRange l D a e0 A hfl p1 0 3649) cw_X10_81 (okR_of hRf hRl (Nat.le_of_ble_eq_true rfl) (Nat.le_of_ble_eq_true rfl)) (fun U g mk z q => be_blind g mk z q) (fun U hU hW => EV.at hE va_S.rf hW hU) rfl rfl hl.1 (Nat.le_of_ble_eq_true rfl) (by rw [hRc]; exact Nat.le_of_ble_eq_true rfl) (by rw [hRs]; exact Nat.le_of_ble_eq_true rfl) dX10_requireNight_5 (fun k9 E9 ce9 q9 H9 hF9 z1 z2 z3 z4 z5 z6 => out z1 z2 z3 z4 z5 z6 (Nat.le_of_ble_eq_true rfl) (Nat.le_of_ble_eq_true rfl) (hf.trans (exb_er hF9))) (fun v9_1 hv9_1 => ?_)
  have hf := hf.trans (exb_ok hv9_1)
  exact ret _ _ dX10_requireNight_8 hf
def f_X10_cloudyNights_l6_66 (x : Nat) (p1 : Nat) (p2 : Int32) (p3 : Int32) (σ : XS) (w4_6 : Int32) (w5_6 : Int32) (v4_66 : Int32) (v5_66 : Int32) : Bool × (Int32 × Int32) := (true, (v4_66, (v5_66 + 1)))
def b_X10_cloudyNights_6 (x : Nat) (p1 : Nat) (p2 : Int32) (p3 : Int32) (σ : XS) (w4_6 : Int32) (w5_6 : Int32) : Bool × (Int32 × Int32) := (if (nI (xn σ 1)) ≤ w5_6 then (false, (w4_6, w5_6)) else (if (xr σ 40 (xe σ 1 (ix w5_6))) = p1 then (if (xi σ 41 (xe σ 1 (ix w5_6))) < p2 then (f_X10_cloudyNights_l6_66 x p1 p2 p3 σ w4_6 w5_6 w4_6 w5_6) else (if p3 < (xi σ 41 (xe σ 1 (ix w5_6))) then (f_X10_cloudyNights_l6_66 x p1 p2 p3 σ w4_6 w5_6 w4_6 w5_6) else (f_X10_cloudyNights_l6_66 x p1 p2 p3 σ w4_6 w5_6 (w4_6 + 1) w5_6))) else (f_X10_cloudyNights_l6_66 x p1 p2 p3 σ w4_6 w5_6 w4_6 w5_6)))
def ob_X10_cloudyNights_6 (x : Nat) (p1 : Nat) (p2 : Int32) (p3 : Int32) (σ : XS) (w4_6 : Int32) (w5_6 : Int32) : Prop := (oif ((nI (xn σ 1)) ≤ w5_6) True (vp_in w5_6 (xn σ 1) ∧ ((xk σ (xe σ 1 (ix w5_6))) = 2 ∧ ((xk σ (xr σ 40 (xe σ 1 (ix w5_6)))) = 1 ∧ True))))
def s_X10_cloudyNights_6 (x : Nat) (p1 : Nat) (p2 : Int32) (p3 : Int32) (σ : XS) (v : Int32 × Int32) : Bool × (Int32 × Int32) := b_X10_cloudyNights_6 x p1 p2 p3 σ v.1 v.2
def os_X10_cloudyNights_6 (x : Nat) (p1 : Nat) (p2 : Int32) (p3 : Int32) (σ : XS) (v : Int32 × Int32) : Prop := ob_X10_cloudyNights_6 x p1 p2 p3 σ v.1 v.2
def f_X10_cloudyNights_72 (σ : XS) (x : Nat) (p1 : Nat) (p2 : Int32) (p3 : Int32) (v4_72 : Int32) : Int32 := v4_72
def f_X10_cloudyNights_6 (σ : XS) (x : Nat) (p1 : Nat) (p2 : Int32) (p3 : Int32) (v4_6 : Int32) (v5_6 : Int32) : Int32 := (f_X10_cloudyNights_72 σ x p1 p2 p3 ((itr (s_X10_cloudyNights_6 x p1 p2 p3 σ) FU (v4_6, v5_6)).1))
def of_X10_cloudyNights_6 (σ : XS) (x : Nat) (p1 : Nat) (p2 : Int32) (p3 : Int32) (v4_6 : Int32) (v5_6 : Int32) : Prop := (ito (s_X10_cloudyNights_6 x p1 p2 p3 σ) (os_X10_cloudyNights_6 x p1 p2 p3 σ) FU (v4_6, v5_6) ∧ True)
def f_X10_cloudyNights (σ : XS) (x : Nat) (p1 : Nat) (p2 : Int32) (p3 : Int32) : Int32 := (f_X10_cloudyNights_6 σ x p1 p2 p3 0 0)
def of_X10_cloudyNights (σ : XS) (x : Nat) (p1 : Nat) (p2 : Int32) (p3 : Int32) : Prop := (of_X10_cloudyNights_6 σ x p1 p2 p3 0 0)
set_option maxHeartbeats 4000000 in
set_option maxRecDepth 100000 in
theorem k_X10_cloudyNights (l : Launch) (D : va_G) (a : Nat → ClassId) (x : Nat) (e0 : Nat) (A : Nat → Prop) (σ : XS) (p1 : Nat) (p2 : Int32) (p3 : Int32) (hok : of_X10_cloudyNights σ x p1 p2 p3) : K0 l yX10_cloudyNights cX10_cloudyNights 7 ((some .int)) 3 64 [.ref x, .ref p1, .int p2, .int p3] (BX D a x e0 A σ) (.int (f_X10_cloudyNights σ x p1 p2 p3)) := by
  refine go0i (D := D) (a := a) (by decide +kernel) (fun _ h => h.1.1) (Nat.le_of_ble_eq_true rfl) ?_
  intro p e s m args below meth c ls R Q hRf hRl C hl hB
  obtain ⟨hB, ret⟩ := hB
  have hE := hB.1
  have hM : HX D a x e0 A σ s.heap s.heap [] := ⟨hB.2, va_S.rf⟩
  have hl : lv_has ls 7 [(0, .ref x), (1, .ref p1), (2, .int p2), (3, .int p3)] := hl
  have hx := C.1.1
  have hb := C.1.2.1
  have hts := C.1.2.2.2.2
  have hown := C.1.2.2.2.1
  have hf : (f_X10_cloudyNights σ x p1 p2 p3) = (f_X10_cloudyNights σ x p1 p2 p3) := rfl
  have J_72 : ∀ (v4_72 : Int32), (f_X10_cloudyNights σ x p1 p2 p3) = f_X10_cloudyNights_72 σ x p1 p2 p3 v4_72 → ∀ (ls : Array Slot), lv_has ls 7 [(4, .int v4_72)] → W p l e R s m args below meth c s.heap [] 0 0 Q (F0 m 72 ls []) := by
    intro v4_72 hf ls hl
    refine lv_iload hx hb dX10_cloudyNights_72 (lv_at hl 0 rfl) ?_
    exact ret _ _ _ dX10_cloudyNights_74 hf
  have J_6 : ∀ (v4_6 : Int32) (v5_6 : Int32), (f_X10_cloudyNights σ x p1 p2 p3) = f_X10_cloudyNights_6 σ x p1 p2 p3 v4_6 v5_6 → of_X10_cloudyNights_6 σ x p1 p2 p3 v4_6 v5_6 → ∀ (ls : Array Slot), lv_has ls 7 [(0, .ref x), (1, .ref p1), (2, .int p2), (3, .int p3), (4, .int v4_6), (5, .int v5_6)] → W p l e R s m args below meth c s.heap [] 0 0 Q (F0 m 6 ls []) := by
    intro v4_6 v5_6 hf hok ls hl
    refine itr_W (f := (s_X10_cloudyNights_6 x p1 p2 p3 σ)) (o := (os_X10_cloudyNights_6 x p1 p2 p3 σ)) (fun (v : Int32 × Int32) => ∀ (ls : Array Slot), lv_has ls 7 [(0, .ref x), (1, .ref p1), (2, .int p2), (3, .int p3), (4, .int v.1), (5, .int v.2)] → W p l e R s m args below meth c s.heap [] 0 0 Q (F0 m 6 ls [])) (fun (v : Int32 × Int32) => ∀ (ls : Array Slot), lv_has ls 7 [(4, .int v.1)] → W p l e R s m args below meth c s.heap [] 0 0 Q (F0 m 72 ls [])) ?_ FU (v4_6, v5_6) (And.left hok) ?_ ls (lv_sub hl [0, 1, 2, 3, 4, 5] rfl)
    · intro v hov kc ke
      obtain ⟨w4_6, w5_6⟩ := v
      have hok : ob_X10_cloudyNights_6 x p1 p2 p3 σ w4_6 w5_6 := hov
      change ∀ v', (b_X10_cloudyNights_6 x p1 p2 p3 σ w4_6 w5_6) = (true, v') → _ at kc
      change ∀ v', (b_X10_cloudyNights_6 x p1 p2 p3 σ w4_6 w5_6) = (false, v') → _ at ke
      have hf : (b_X10_cloudyNights_6 x p1 p2 p3 σ w4_6 w5_6) = (b_X10_cloudyNights_6 x p1 p2 p3 σ w4_6 w5_6) := rfl
      intro ls hl
      have J_l6_66 : ∀ (v4_66 : Int32) (v5_66 : Int32), (b_X10_cloudyNights_6 x p1 p2 p3 σ w4_6 w5_6) = f_X10_cloudyNights_l6_66 x p1 p2 p3 σ w4_6 w5_6 v4_66 v5_66 → ∀ (ls : Array Slot), lv_has ls 7 [(0, .ref x), (1, .ref p1), (2, .int p2), (3, .int p3), (4, .int v4_66), (5, .int v5_66)] → W p l e R s m args below meth c s.heap [] 0 0 Q (F0 m 66 ls []) := by
        intro v4_66 v5_66 hf ls hl
        refine lv_iinc (v := (v5_66 + 1)) (lv' := [(5, .int (v5_66 + 1)), (0, .ref x), (1, .ref p1), (2, .int p2), (3, .int p3), (4, .int v4_66)]) hx hb dX10_cloudyNights_66 hl (k := 5) rfl rfl (by decide) rfl (fun ls hl => ?_)
        refine lv_goto (tgt := 6) hx hb dX10_cloudyNights_69 (by decide) ?_
        exact kc (v4_66, (v5_66 + 1)) hf ls (lv_sub hl [1, 2, 3, 4, 5, 0] rfl)
      refine lv_iload hx hb dX10_cloudyNights_6 (lv_at hl 5 rfl) ?_
      refine lv_aload_n hx hb dX10_cloudyNights_8 rfl (lv_at hl 0 rfl) ?_
      refine xt_clouds C hM dX10_cloudyNights_9 ?_
      refine xl_size (j := 1) C hE hM (by decide) hRf hRl (Nat.le_of_ble_eq_true rfl) (Nat.le_of_ble_eq_true rfl) hl.1 (Nat.le_of_ble_eq_true rfl) (Nat.zero_le _) (Nat.zero_le _) dX10_cloudyNights_12 ?_
      refine lv_icmp_ge (tgt := 72) hx hb dX10_cloudyNights_17 (by decide) (fun c_1 => ?_) (fun c_1 => ?_)
      · have hf := hf.trans (if_pos c_1)
        have hok := oif_pos hok c_1
        exact ke (w4_6, w5_6) hf ls (lv_sub hl [4] rfl)
      · have hf := hf.trans (if_neg c_1)
        have hok := oif_neg hok c_1
        refine lv_aload_n hx hb dX10_cloudyNights_20 rfl (lv_at hl 0 rfl) ?_
        refine xt_clouds C hM dX10_cloudyNights_21 ?_
        refine lv_iload hx hb dX10_cloudyNights_24 (lv_at hl 5 rfl) ?_
        have ok_2 := And.left hok
        have hok := And.right hok
        refine xl_get (j := 1) C hE hM (by decide) ok_2 hRf hRl (Nat.le_of_ble_eq_true rfl) (Nat.le_of_ble_eq_true rfl) hl.1 (Nat.le_of_ble_eq_true rfl) (Nat.zero_le _) (Nat.zero_le _) dX10_cloudyNights_26 ?_
        have hk_3 := And.left hok
        have hok := And.right hok
        exact (xno hM.1 (Or.inl hk_3)).elim
    · have hok := And.right hok
      intro ls hl
      exact J_72 ((itr (s_X10_cloudyNights_6 x p1 p2 p3 σ) FU (v4_6, v5_6)).1) hf ls (lv_sub hl [0] rfl)
  refine lv_iconst (v := 0) hx hb dX10_cloudyNights_0 (by decide) ?_
  refine lv_istore (lv' := [(4, .int 0), (0, .ref x), (1, .ref p1), (2, .int p2), (3, .int p3)]) hx hb dX10_cloudyNights_1 hl (by decide) rfl (fun ls hl => ?_)
  refine lv_iconst (v := 0) hx hb dX10_cloudyNights_3 (by decide) ?_
  refine lv_istore (lv' := [(5, .int 0), (4, .int 0), (0, .ref x), (1, .ref p1), (2, .int p2), (3, .int p3)]) hx hb dX10_cloudyNights_4 hl (by decide) rfl (fun ls hl => ?_)
  exact J_6 0 0 hf hok ls (lv_sub hl [2, 3, 4, 5, 1, 0] rfl)
def f_X10_isCloudy (σ : XS) (x : Nat) (p1 : Nat) (p2 : Int32) : Int32 := (if (f_X10_cloudyNights σ x p1 p2 p2) ≤ 0 then 0 else 1)
def of_X10_isCloudy (σ : XS) (x : Nat) (p1 : Nat) (p2 : Int32) : Prop := (of_X10_cloudyNights σ x p1 p2 p2 ∧ True)
set_option maxHeartbeats 4000000 in
set_option maxRecDepth 100000 in
theorem k_X10_isCloudy (l : Launch) (D : va_G) (a : Nat → ClassId) (x : Nat) (e0 : Nat) (A : Nat → Prop) (σ : XS) (p1 : Nat) (p2 : Int32) (hok : of_X10_isCloudy σ x p1 p2) : K0 l yX10_isCloudy cX10_isCloudy 3 ((some .boolean)) 4 90 [.ref x, .ref p1, .int p2] (BX D a x e0 A σ) (.int (f_X10_isCloudy σ x p1 p2)) := by
  refine go0z (D := D) (a := a) (by decide +kernel) (fun _ h => h.1.1) (Nat.le_of_ble_eq_true rfl) ?_
  intro p e s m args below meth c ls R Q hRf hRl C hl hB
  obtain ⟨hB, ret⟩ := hB
  have hE := hB.1
  have hM : HX D a x e0 A σ s.heap s.heap [] := ⟨hB.2, va_S.rf⟩
  have hl : lv_has ls 3 [(0, .ref x), (1, .ref p1), (2, .int p2)] := hl
  have hx := C.1.1
  have hb := C.1.2.1
  have hts := C.1.2.2.2.2
  have hown := C.1.2.2.2.1
  have hf : (f_X10_isCloudy σ x p1 p2) = (f_X10_isCloudy σ x p1 p2) := rfl
  refine lv_aload_n hx hb dX10_isCloudy_0 rfl (lv_at hl 0 rfl) ?_
  refine lv_aload_n hx hb dX10_isCloudy_1 rfl (lv_at hl 1 rfl) ?_
  refine lv_iload_n hx hb dX10_isCloudy_2 rfl (lv_at hl 2 rfl) ?_
  refine lv_iload_n hx hb dX10_isCloudy_3 rfl (lv_at hl 2 rfl) ?_
  have ok_1 := And.left hok
  have hok := And.right hok
  refine cc_X (av := [.ref p1, .int p2, .int p2]) (b := x) C hE hM (k_X10_cloudyNights l D a x e0 A σ p1 p2 p2 ok_1) cw_X10_133 (okR_of hRf hRl (Nat.le_of_ble_eq_true rfl) (Nat.le_of_ble_eq_true rfl)) (xr_net C hM) rfl rfl hl.1 (Nat.le_of_ble_eq_true rfl) (Nat.zero_le _) (Nat.zero_le _) dX10_isCloudy_4 ?_
  refine lv_if_le (tgt := 14) hx hb dX10_isCloudy_7 (by decide) (fun c_2 => ?_) (fun c_2 => ?_)
  · have hf := hf.trans (if_pos c_2)
    refine lv_iconst (v := 0) hx hb dX10_isCloudy_14 (by decide) ?_
    exact ret _ _ _ dX10_isCloudy_15 (by unfold zb; decide) hf
  · have hf := hf.trans (if_neg c_2)
    refine lv_iconst (v := 1) hx hb dX10_isCloudy_10 (by decide) ?_
    refine lv_goto (tgt := 15) hx hb dX10_isCloudy_11 (by decide) ?_
    exact ret _ _ _ dX10_isCloudy_15 (by unfold zb; decide) hf
def f_X10_hasSighting_l2_50 (x : Nat) (p1 : Nat) (p2 : Int32) (σ : XS) (w3_2 : Int32) (v3_50 : Int32) : Bool × (Int32 × (Option (Int32))) := (true, ((v3_50 + 1), none))
def b_X10_hasSighting_2 (x : Nat) (p1 : Nat) (p2 : Int32) (σ : XS) (w3_2 : Int32) : Bool × (Int32 × (Option (Int32))) := (if (nI (xn σ 2)) ≤ w3_2 then (false, (w3_2, none)) else (if (xr σ 140 (xe σ 2 (ix w3_2))) = p1 then (if (xi σ 141 (xe σ 2 (ix w3_2))) = p2 then (false, (w3_2, some 1)) else (f_X10_hasSighting_l2_50 x p1 p2 σ w3_2 w3_2)) else (f_X10_hasSighting_l2_50 x p1 p2 σ w3_2 w3_2)))
def ob_X10_hasSighting_2 (x : Nat) (p1 : Nat) (p2 : Int32) (σ : XS) (w3_2 : Int32) : Prop := (oif ((nI (xn σ 2)) ≤ w3_2) True (vp_in w3_2 (xn σ 2) ∧ ((xk σ (xe σ 2 (ix w3_2))) = 7 ∧ ((xk σ (xr σ 140 (xe σ 2 (ix w3_2)))) = 1 ∧ True))))
def s_X10_hasSighting_2 (x : Nat) (p1 : Nat) (p2 : Int32) (σ : XS) (v : Int32 × (Option (Int32))) : Bool × (Int32 × (Option (Int32))) := b_X10_hasSighting_2 x p1 p2 σ v.1
def os_X10_hasSighting_2 (x : Nat) (p1 : Nat) (p2 : Int32) (σ : XS) (v : Int32 × (Option (Int32))) : Prop := ob_X10_hasSighting_2 x p1 p2 σ v.1
def f_X10_hasSighting_56 (σ : XS) (x : Nat) (p1 : Nat) (p2 : Int32) : Int32 := 0
def f_X10_hasSighting_2 (σ : XS) (x : Nat) (p1 : Nat) (p2 : Int32) (v3_2 : Int32) : Int32 := (lret (itr (s_X10_hasSighting_2 x p1 p2 σ) FU (v3_2, none)).2 (f_X10_hasSighting_56 σ x p1 p2))
def of_X10_hasSighting_2 (σ : XS) (x : Nat) (p1 : Nat) (p2 : Int32) (v3_2 : Int32) : Prop := (ito (s_X10_hasSighting_2 x p1 p2 σ) (os_X10_hasSighting_2 x p1 p2 σ) FU (v3_2, none) ∧ (lreto (itr (s_X10_hasSighting_2 x p1 p2 σ) FU (v3_2, none)).2 True))
def f_X10_hasSighting (σ : XS) (x : Nat) (p1 : Nat) (p2 : Int32) : Int32 := (f_X10_hasSighting_2 σ x p1 p2 0)
def of_X10_hasSighting (σ : XS) (x : Nat) (p1 : Nat) (p2 : Int32) : Prop := (of_X10_hasSighting_2 σ x p1 p2 0)
def f_X10_cloud_85 (σ : XS) (x : Nat) (nq : Nat) (p1 : Int32) (p2 : Int32) (v3_85 : Nat) (t0_85 : Nat) (σ_85 : XS) : Except Nat (Int32 × XS) := .ok ((f_X10_cloudyNights (xAdd σ_85 1 t0_85) x v3_85 0 3649), (xAdd σ_85 1 t0_85))
def of_X10_cloud_85 (σ : XS) (x : Nat) (nq : Nat) (p1 : Int32) (p2 : Int32) (v3_85 : Nat) (t0_85 : Nat) (σ_85 : XS) : Prop := ((xk σ_85 t0_85) = 2 ∧ ((xn σ_85 1) ≤ 100 ∧ ((∀ i, i < (xn σ_85 1) → (xk σ_85 (xe σ_85 1 i)) = 2) ∧ (of_X10_cloudyNights (xAdd σ_85 1 t0_85) x v3_85 0 3649 ∧ True))))
def f_X10_cloud (σ : XS) (x : Nat) (nq : Nat) (p1 : Int32) (p2 : Int32) : Except Nat (Int32 × XS) := (exb (f_X10_existingCamera σ x p1) (fun v9_2 => (exb (f_X10_requireNight p2) (fun v9_3 => (if (f_X10_isCloudy σ x v9_2 p2) = 0 then (if (f_X10_hasSighting σ x v9_2 p2) = 0 then (if (nI (xn σ 1)) < 50 then (f_X10_cloud_85 σ x nq p1 p2 v9_2 nq ((f_X1_init (xNew σ 2 nq) nq v9_2 p2).2)) else .error 2) else .error 2) else .error 2)))))
def of_X10_cloud (σ : XS) (x : Nat) (nq : Nat) (p1 : Int32) (p2 : Int32) : Prop := (of_X10_existingCamera σ x p1 ∧ (exo (f_X10_existingCamera σ x p1) (fun v9_2 => (exo (f_X10_requireNight p2) (fun v9_3 => (of_X10_isCloudy σ x v9_2 p2 ∧ (oif ((f_X10_isCloudy σ x v9_2 p2) = 0) (of_X10_hasSighting σ x v9_2 p2 ∧ (oif ((f_X10_hasSighting σ x v9_2 p2) = 0) (oif ((nI (xn σ 1)) < 50) (of_X1_init (xNew σ 2 nq) nq v9_2 p2 ∧ (of_X10_cloud_85 σ x nq p1 p2 v9_2 nq ((f_X1_init (xNew σ 2 nq) nq v9_2 p2).2))) True) True)) True)))))))
def f_X10_begin_71 (σ : XS) (x : Nat) (nq : Nat) (p1 : Int32) (p2 : Int32) (p3 : Int32) (p4 : Int32) (p5 : Int32) (t0_71 : Nat) (σ_71 : XS) : Except Nat (Unit × XS) := .ok ((), (xR σ_71 223 x t0_71))
def of_X10_begin_71 (σ : XS) (x : Nat) (nq : Nat) (p1 : Int32) (p2 : Int32) (p3 : Int32) (p4 : Int32) (p5 : Int32) (t0_71 : Nat) (σ_71 : XS) : Prop := ((xk σ_71 t0_71) = 7 ∧ True)
def f_X10_begin (σ : XS) (x : Nat) (nq : Nat) (p1 : Int32) (p2 : Int32) (p3 : Int32) (p4 : Int32) (p5 : Int32) : Except Nat (Unit × XS) := (exb (f_X10_existingCamera σ x p1) (fun v9_2 => (exb (f_X10_requireNight p2) (fun v9_3 => (exb (f_X10_requireRange p3 0 86399) (fun v9_4 => (exb (f_X10_requireRange p4 1 60) (fun v9_5 => (exb (f_X10_requireRange p5 1 1000) (fun v9_6 => (if (f_X10_isCloudy σ x v9_2 p2) = 0 then (f_X10_begin_71 σ x nq p1 p2 p3 p4 p5 nq ((f_X6_init (xNew σ 7 nq) nq v9_2 p2 p3 p4 p5).2)) else .error 2)))))))))))
def of_X10_begin (σ : XS) (x : Nat) (nq : Nat) (p1 : Int32) (p2 : Int32) (p3 : Int32) (p4 : Int32) (p5 : Int32) : Prop := (of_X10_existingCamera σ x p1 ∧ (exo (f_X10_existingCamera σ x p1) (fun v9_2 => (exo (f_X10_requireNight p2) (fun v9_3 => (exo (f_X10_requireRange p3 0 86399) (fun v9_4 => (exo (f_X10_requireRange p4 1 60) (fun v9_5 => (exo (f_X10_requireRange p5 1 1000) (fun v9_6 => (of_X10_isCloudy σ x v9_2 p2 ∧ (oif ((f_X10_isCloudy σ x v9_2 p2) = 0) (of_X6_init (xNew σ 7 nq) nq v9_2 p2 p3 p4 p5 ∧ (of_X10_begin_71 σ x nq p1 p2 p3 p4 p5 nq ((f_X6_init (xNew σ 7 nq) nq v9_2 p2 p3 p4 p5).2))) True)))))))))))))
set_option maxHeartbeats 4000000 in
set_option maxRecDepth 100000 in
theorem k_X10_begin (l : Launch) (D : va_G) (a : Nat → ClassId) (x : Nat) (e0 : Nat) (A : Nat → Prop) (hfl : l.stackTraces = false) (σ : XS) (p1 : Int32) (p2 : Int32) (p3 : Int32) (p4 : Int32) (p5 : Int32) (hok : ∀ nq, xk σ nq = 0 → of_X10_begin σ x nq p1 p2 p3 p4 p5) : KTm l D a x e0 A yX10_begin cX10_begin 7 none 8 134 6 42 [.ref x, .int p1, .int p2, .int p3, .int p4, .int p5] σ (fun _ => none) (fun nq => f_X10_begin σ x nq p1 p2 p3 p4 p5) := by
  refine goUv hfl rfl (by decide +kernel) (Nat.le_of_ble_eq_true rfl) ?_
  intro p e s m args below meth c ls R Q nq hRf hRl hRc hRs hnq C hE hM hl ret thr out
  have hok := hok nq (by rw [hnq]; exact xP_fresh hM.1)
  have hl : lv_has ls 7 [(0, .ref x), (1, .int p1), (2, .int p2), (3, .int p3), (4, .int p4), (5, .int p5)] := hl
  have hx := C.1.1
  have hb := C.1.2.1
  have hts := C.1.2.2.2.2
  have hown := C.1.2.2.2.1
  have hf : (f_X10_begin σ x nq p1 p2 p3 p4 p5) = (f_X10_begin σ x nq p1 p2 p3 p4 p5) := rfl
  have J_71 : ∀ (t0_71 : Nat) (σ_71 : XS), (f_X10_begin σ x nq p1 p2 p3 p4 p5) = f_X10_begin_71 σ x nq p1 p2 p3 p4 p5 t0_71 σ_71 → of_X10_begin_71 σ x nq p1 p2 p3 p4 p5 t0_71 σ_71 → ∀ (H : Heap) (locs : List Loc) (ls : Array Slot), HX D a x e0 A σ_71 s.heap H locs → lv_has ls 7 [] → W p l e R s m args below meth c H locs 6 42 Q (F0 m 71 ls [.ref t0_71, .ref x]) := by
    intro t0_71 σ_71 hf hok H locs ls hM hl
    have hk_11 := And.left hok
    have hok := And.right hok
    refine fromRef (xne0 hM.1 hk_11 (by decide)) ?_
    refine xq_begun C hM dX10_begin_71 (fun H locs hM => ?_)
    exact ret _ _ _ _ _ hM dX10_begin_74 hf
  refine lv_aload_n hx hb dX10_begin_0 rfl (lv_at hl 0 rfl) ?_
  refine lv_iload_n hx hb dX10_begin_1 rfl (lv_at hl 1 rfl) ?_
  have ok_1 := And.left hok
  have hok := And.right hok
  refine cc_TV (av := [.int p1]) (b := x) C hE hM (k_X10_existingCamera l D a x e0 A hfl σ p1 ok_1) cw_X10_100 (okR_of hRf hRl (Nat.le_of_ble_eq_true rfl) (Nat.le_of_ble_eq_true rfl)) (xr_net C hM) rfl rfl hl.1 (Nat.le_of_ble_eq_true rfl) (by rw [hRc]; exact Nat.le_of_ble_eq_true rfl) (by rw [hRs]; exact Nat.le_of_ble_eq_true rfl) dX10_begin_2 (fun k9 E9 ce9 q9 H9 hF9 z1 z2 z3 z4 z5 z6 => out z1 z2 z3 z4 z5 z6 (Nat.le_of_ble_eq_true rfl) (Nat.le_of_ble_eq_true rfl) (hf.trans (exb_er hF9))) (fun v9_2 hv9_2 => ?_)
  have hf := hf.trans (exb_ok hv9_2)
  have hok := exo_ok hok hv9_2
  refine lv_astore (lv' := [(6, .ref v9_2), (0, .ref x), (1, .int p1), (2, .int p2), (3, .int p3), (4, .int p4), (5, .int p5)]) hx hb dX10_begin_5 hl (by decide) rfl (fun ls hl => ?_)
  refine lv_iload_n hx hb dX10_begin_7 rfl (lv_at hl 3 rfl) ?_
  refine cc_TS (av := [.int p2]) C (k_X10_requireNight l D a e0 A hfl p2) cw_X10_111 (okR_of hRf hRl (Nat.le_of_ble_eq_true rfl) (Nat.le_of_ble_eq_true rfl)) (fun U g mk z q => be_blind g mk z q) (fun U hU hW => EV.at hE va_S.rf hW hU) rfl rfl hl.1 (Nat.le_of_ble_eq_true rfl) (by rw [hRc]; exact Nat.le_of_ble_eq_true rfl) (by rw [hRs]; exact Nat.le_of_ble_eq_true rfl) dX10_begin_8 (fun k9 E9 ce9 q9 H9 hF9 z1 z2 z3 z4 z5 z6 => out z1 z2 z3 z4 z5 z6 (Nat.le_of_ble_eq_true rfl) (Nat.le_of_ble_eq_true rfl) (hf.trans (exb_er hF9))) (fun v9_3 hv9_3 => ?_)
  have hf := hf.trans (exb_ok hv9_3)
  have hok := exo_ok hok hv9_3
  refine lv_iload_n hx hb dX10_begin_11 rfl (lv_at hl 4 rfl) ?_
  refine lv_iconst (v := 0) hx hb dX10_begin_12 (by decide) ?_
  refine lv_ldc (v := 86399) hx hb hown (hts _ q_548) dX10_begin_13 ?_
  refine cc_TS (av := [.int p3, .int 0, .int 86399]) C (k_X10_requireRange l D a e0 A hfl p3 0 86399) cw_X10_81 (okR_of hRf hRl (Nat.le_of_ble_eq_true rfl) (Nat.le_of_ble_eq_true rfl)) (fun U g mk z q => be_blind g mk z q) (fun U hU hW => EV.at hE va_S.rf hW hU) rfl rfl hl.1 (Nat.le_of_ble_eq_true rfl) (by rw [hRc]; exact Nat.le_of_ble_eq_true rfl) (by rw [hRs]; exact Nat.le_of_ble_eq_true rfl) dX10_begin_15 (fun k9 E9 ce9 q9 H9 hF9 z1 z2 z3 z4 z5 z6 => out z1 z2 z3 z4 z5 z6 (Nat.le_of_ble_eq_true rfl) (Nat.le_of_ble_eq_true rfl) (hf.trans (exb_er hF9))) (fun v9_4 hv9_4 => ?_)
  have hf := hf.trans (exb_ok hv9_4)
  have hok := exo_ok hok hv9_4
  refine lv_iload hx hb dX10_begin_18 (lv_at hl 5 rfl) ?_
  refine lv_iconst (v := 1) hx hb dX10_begin_20 (by decide) ?_
  refine lv_bipush (v := 60) hx hb dX10_begin_21 (by decide) ?_
  refine cc_TS (av := [.int p4, .int 1, .int 60]) C (k_X10_requireRange l D a e0 A hfl p4 1 60) cw_X10_81 (okR_of hRf hRl (Nat.le_of_ble_eq_true rfl) (Nat.le_of_ble_eq_true rfl)) (fun U g mk z q => be_blind g mk z q) (fun U hU hW => EV.at hE va_S.rf hW hU) rfl rfl hl.1 (Nat.le_of_ble_eq_true rfl) (by rw [hRc]; exact Nat.le_of_ble_eq_true rfl) (by rw [hRs]; exact Nat.le_of_ble_eq_true rfl) dX10_begin_23 (fun k9 E9 ce9 q9 H9 hF9 z1 z2 z3 z4 z5 z6 => out z1 z2 z3 z4 z5 z6 (Nat.le_of_ble_eq_true rfl) (Nat.le_of_ble_eq_true rfl) (hf.trans (exb_er hF9))) (fun v9_5 hv9_5 => ?_)
  have hf := hf.trans (exb_ok hv9_5)
  have hok := exo_ok hok hv9_5
  refine lv_iload hx hb dX10_begin_26 (lv_at hl 6 rfl) ?_
  refine lv_iconst (v := 1) hx hb dX10_begin_28 (by decide) ?_
  refine lv_sipush (v := 1000) hx hb dX10_begin_29 (by decide) ?_
  refine cc_TS (av := [.int p5, .int 1, .int 1000]) C (k_X10_requireRange l D a e0 A hfl p5 1 1000) cw_X10_81 (okR_of hRf hRl (Nat.le_of_ble_eq_true rfl) (Nat.le_of_ble_eq_true rfl)) (fun U g mk z q => be_blind g mk z q) (fun U hU hW => EV.at hE va_S.rf hW hU) rfl rfl hl.1 (Nat.le_of_ble_eq_true rfl) (by rw [hRc]; exact Nat.le_of_ble_eq_true rfl) (by rw [hRs]; exact Nat.le_of_ble_eq_true rfl) dX10_begin_32 (fun k9 E9 ce9 q9 H9 hF9 z1 z2 z3 z4 z5 z6 => out z1 z2 z3 z4 z5 z6 (Nat.le_of_ble_eq_true rfl) (Nat.le_of_ble_eq_true rfl) (hf.trans (exb_er hF9))) (fun v9_6 hv9_6 => ?_)
  have hf := hf.trans (exb_ok hv9_6)
  have hok := exo_ok hok hv9_6
  refine lv_aload_n hx hb dX10_begin_35 rfl (lv_at hl 1 rfl) ?_
  refine lv_aload hx hb dX10_begin_36 (lv_at hl 0 rfl) ?_
  refine lv_iload_n hx hb dX10_begin_38 rfl (lv_at hl 3 rfl) ?_
  have ok_7 := And.left hok
  have hok := And.right hok
  refine cc_X (av := [.ref v9_2, .int p2]) (b := x) C hE hM (k_X10_isCloudy l D a x e0 A σ v9_2 p2 ok_7) cw_X10_115 (okR_of hRf hRl (Nat.le_of_ble_eq_true rfl) (Nat.le_of_ble_eq_true rfl)) (xr_net C hM) rfl rfl hl.1 (Nat.le_of_ble_eq_true rfl) (by rw [hRc]; exact Nat.le_of_ble_eq_true rfl) (by rw [hRs]; exact Nat.le_of_ble_eq_true rfl) dX10_begin_39 ?_
  refine lv_if_eq (tgt := 55) hx hb dX10_begin_42 (by decide) (fun c_8 => ?_) (fun c_8 => ?_)
  · have hf := hf.trans (if_pos c_8)
    have hok := oif_pos hok c_8
    refine lv_aload_n hx hb dX10_begin_55 rfl (lv_at hl 1 rfl) ?_
    refine xnew_X10_140 C hE hM hnq (xP_pos hM.1) (by rw [hRc]; exact Nat.le_of_ble_eq_true rfl) (by rw [hRs]; exact Nat.le_of_ble_eq_true rfl) dX10_begin_56 (fun H locs hM => ?_)
    have hk_9 : (xk (xNew σ 7 nq) nq) = 7 := va_up_self _ _ _
    refine lv_dup hx hb dX10_begin_59 rfl ?_
    refine lv_aload hx hb dX10_begin_60 (lv_at hl 0 rfl) ?_
    refine lv_iload_n hx hb dX10_begin_62 rfl (lv_at hl 3 rfl) ?_
    refine lv_iload_n hx hb dX10_begin_63 rfl (lv_at hl 4 rfl) ?_
    refine lv_iload hx hb dX10_begin_64 (lv_at hl 5 rfl) ?_
    refine lv_iload hx hb dX10_begin_66 (lv_at hl 6 rfl) ?_
    have ok_10 := And.left hok
    have hok := And.right hok
    refine cc_XI (av := [.ref v9_2, .int p2, .int p3, .int p4, .int p5]) (b := nq) (N := 0) (Or.inr (fun _ => rfl)) C hE hM (k_X6_init l D a x e0 A (xNew σ 7 nq) nq v9_2 p2 p3 p4 p5 ok_10) cw_X10_142 (okR_of hRf hRl (Nat.le_of_ble_eq_true rfl) (Nat.le_of_ble_eq_true rfl)) rfl rfl hl.1 (Nat.le_of_ble_eq_true rfl) (by rw [hRc]; exact Nat.le_of_ble_eq_true rfl) (by rw [hRs]; exact Nat.le_of_ble_eq_true rfl) dX10_begin_68 (fun H locs hM => ?_)
    exact J_71 nq ((f_X6_init (xNew σ 7 nq) nq v9_2 p2 p3 p4 p5).2) hf hok _ _ ls hM (lv_sub hl [] rfl)
  · have hf := hf.trans (if_neg c_8)
    have hok := oif_neg hok c_8
    obtain ⟨sa, hsr⟩ := hE.2.2.1 _ str_138
    exact thr (k := 2) thr_89 hsr (hl.1.trans C.1.2.2.1.symm) dX10_begin_45 dX10_begin_48 (Or.inl ⟨dX10_begin_49, dX10_begin_51, dX10_begin_54⟩) (by rw [hRf]; exact Nat.le_of_ble_eq_true rfl) (by rw [hRl]; exact Nat.le_of_ble_eq_true rfl) (Nat.le_of_ble_eq_true rfl) (Nat.le_of_ble_eq_true rfl) hf
def f_X10_requireDirection (p1 : Int32) (p2 : Int32) : Except Nat (Unit) := (exb (f_X10_requireRange p1 (-100) 100) (fun v9_1 => (exb (f_X10_requireRange p2 (-100) 100) (fun v9_2 => (if p1 = 0 then (if p2 = 0 then .error 1 else .ok ()) else .ok ())))))
set_option maxHeartbeats 4000000 in
set_option maxRecDepth 100000 in
theorem k_X10_requireDirection (l : Launch) (D : va_G) (a : Nat → ClassId) (e0 : Nat) (A : Nat → Prop) (hfl : l.stackTraces = false) (p1 : Int32) (p2 : Int32) : KT0 l yX10_requireDirection cX10_requireDirection 2 none 7 114 3 18 [.int p1, .int p2] (BE D a e0 A) (fun _ => none) (f_X10_requireDirection p1 p2) := by
  refine goTv (D := D) (a := a) (e0 := e0) (A := A) (fun _ h => h) hfl rfl (by decide +kernel) (Nat.le_of_ble_eq_true rfl) ?_
  intro p e s m args below meth c ls R Q hRf hRl hRc hRs C hB hl ret thr out
  have hE := hB
  have hl : lv_has ls 2 [(0, .int p1), (1, .int p2)] := hl
  have hx := C.1.1
  have hb := C.1.2.1
  have hts := C.1.2.2.2.2
  have hown := C.1.2.2.2.1
  have hf : (f_X10_requireDirection p1 p2) = (f_X10_requireDirection p1 p2) := rfl
  refine lv_iload_n hx hb dX10_requireDirection_0 rfl (lv_at hl 0 rfl) ?_
  refine lv_bipush (v := (-100)) hx hb dX10_requireDirection_1 (by decide) ?_
  refine lv_bipush (v := 100) hx hb dX10_requireDirection_3 (by decide) ?_
  refine cc_TS (av := [.int p1, .int (-100), .int 100]) C (k_X10_requireRange l D a e0 A hfl p1 (-100) 100) cw_X10_81 (okR_of hRf hRl (Nat.le_of_ble_eq_true rfl) (Nat.le_of_ble_eq_true rfl)) (fun U g mk z q => be_blind g mk z q) (fun U hU hW => EV.at hE va_S.rf hW hU) rfl rfl hl.1 (Nat.le_of_ble_eq_true rfl) (by rw [hRc]; exact Nat.le_of_ble_eq_true rfl) (by rw [hRs]; exact Nat.le_of_ble_eq_true rfl) dX10_requireDirection_5 (fun k9 E9 ce9 q9 H9 hF9 z1 z2 z3 z4 z5 z6 => out z1 z2 z3 z4 z5 z6 (Nat.le_of_ble_eq_true rfl) (Nat.le_of_ble_eq_true rfl) (hf.trans (exb_er hF9))) (fun v9_1 hv9_1 => ?_)
  have hf := hf.trans (exb_ok hv9_1)
  refine lv_iload_n hx hb dX10_requireDirection_8 rfl (lv_at hl 1 rfl) ?_
  refine lv_bipush (v := (-100)) hx hb dX10_requireDirection_9 (by decide) ?_
  refine lv_bipush (v := 100) hx hb dX10_requireDirection_11 (by decide) ?_
  refine cc_TS (av := [.int p2, .int (-100), .int 100]) C (k_X10_requireRange l D a e0 A hfl p2 (-100) 100) cw_X10_81 (okR_of hRf hRl (Nat.le_of_ble_eq_true rfl) (Nat.le_of_ble_eq_true rfl)) (fun U g mk z q => be_blind g mk z q) (fun U hU hW => EV.at hE va_S.rf hW hU) rfl rfl hl.1 (Nat.le_of_ble_eq_true rfl) (by rw [hRc]; exact Nat.le_of_ble_eq_true rfl) (by rw [hRs]; exact Nat.le_of_ble_eq_true rfl) dX10_requireDirection_13 (fun k9 E9 ce9 q9 H9 hF9 z1 z2 z3 z4 z5 z6 => out z1 z2 z3 z4 z5 z6 (Nat.le_of_ble_eq_true rfl) (Nat.le_of_ble_eq_true rfl) (hf.trans (exb_er hF9))) (fun v9_2 hv9_2 => ?_)
  have hf := hf.trans (exb_ok hv9_2)
  refine lv_iload_n hx hb dX10_requireDirection_16 rfl (lv_at hl 0 rfl) ?_
  refine lv_if_ne (tgt := 35) hx hb dX10_requireDirection_17 (by decide) (fun c_3 => ?_) (fun c_3 => ?_)
  · have hf := hf.trans (if_neg c_3)
    refine W.widen (k := 3) (n := 18) (Nat.le_of_ble_eq_true rfl) (Nat.le_of_ble_eq_true rfl) ?_
    exact ret _ _ dX10_requireDirection_35 hf
  · have hf := hf.trans (if_pos c_3)
    refine lv_iload_n hx hb dX10_requireDirection_20 rfl (lv_at hl 1 rfl) ?_
    refine lv_if_ne (tgt := 35) hx hb dX10_requireDirection_21 (by decide) (fun c_4 => ?_) (fun c_4 => ?_)
    · have hf := hf.trans (if_neg c_4)
      refine W.widen (k := 3) (n := 18) (Nat.le_of_ble_eq_true rfl) (Nat.le_of_ble_eq_true rfl) ?_
      exact ret _ _ dX10_requireDirection_35 hf
    · have hf := hf.trans (if_pos c_4)
      obtain ⟨sa, hsr⟩ := hE.2.2.1 _ str_356
      exact thr (k := 1) thr_287 hsr (hl.1.trans C.1.2.2.1.symm) dX10_requireDirection_24 dX10_requireDirection_27 (Or.inr ⟨dX10_requireDirection_28, dX10_requireDirection_31, dX10_requireDirection_34⟩) (by rw [hRf]; exact Nat.le_of_ble_eq_true rfl) (by rw [hRl]; exact Nat.le_of_ble_eq_true rfl) (Nat.le_of_ble_eq_true rfl) (Nat.le_of_ble_eq_true rfl) hf
def f_X10_end_129 (σ : XS) (x : Nat) (p1 : Int32) (p2 : Int32) (p3 : Int32) (p4 : Int32) (σ_129 : XS) : Except Nat (Int32 × XS) := .ok (((nI (xn σ_129 2)) - 1), σ_129)
def f_X10_end (σ : XS) (x : Nat) (p1 : Int32) (p2 : Int32) (p3 : Int32) (p4 : Int32) : Except Nat (Int32 × XS) := (exb (f_X10_requireDirection p1 p2) (fun v9_1 => (exb (f_X10_requireDirection p3 p4) (fun v9_2 => (if (xr σ 223 x) = 0 then .error 2 else (if (f_X10_isCloudy σ x (xr σ 140 (xr σ 223 x)) (xi σ 141 (xr σ 223 x))) = 0 then (if (nI (xn σ 2)) < 60 then (f_X10_end_129 σ x p1 p2 p3 p4 ((f_X10_gatherFireballs (xR (xAdd (xI (xI (xI (xI σ 145 (xr σ 223 x) p1) 146 (xr σ 223 x) p2) 147 (xr σ 223 x) p3) 148 (xr σ 223 x) p4) 2 (xr σ 223 x)) 223 x 0) x).2)) else .error 2) else .error 2))))))
def of_X10_end (σ : XS) (x : Nat) (p1 : Int32) (p2 : Int32) (p3 : Int32) (p4 : Int32) : Prop := (exo (f_X10_requireDirection p1 p2) (fun v9_1 => (exo (f_X10_requireDirection p3 p4) (fun v9_2 => (oif ((xr σ 223 x) = 0) True ((xk σ (xr σ 223 x)) = 7 ∧ ((xk σ (xr σ 140 (xr σ 223 x))) = 1 ∧ (of_X10_isCloudy σ x (xr σ 140 (xr σ 223 x)) (xi σ 141 (xr σ 223 x)) ∧ (oif ((f_X10_isCloudy σ x (xr σ 140 (xr σ 223 x)) (xi σ 141 (xr σ 223 x))) = 0) (oif ((nI (xn σ 2)) < 60) ((xn σ 2) ≤ 100 ∧ ((∀ i, i < (xn σ 2) → (xk σ (xe σ 2 i)) = 7) ∧ (of_X10_gatherFireballs (xR (xAdd (xI (xI (xI (xI σ 145 (xr σ 223 x) p1) 146 (xr σ 223 x) p2) 147 (xr σ 223 x) p3) 148 (xr σ 223 x) p4) 2 (xr σ 223 x)) 223 x 0) x ∧ True))) True) True)))))))))
set_option maxHeartbeats 4000000 in
set_option maxRecDepth 100000 in
theorem k_X10_end (l : Launch) (D : va_G) (a : Nat → ClassId) (x : Nat) (e0 : Nat) (A : Nat → Prop) (hfl : l.stackTraces = false) (σ : XS) (p1 : Int32) (p2 : Int32) (p3 : Int32) (p4 : Int32) (hok : of_X10_end σ x p1 p2 p3 p4) : KTm l D a x e0 A yX10_end cX10_end 6 ((some .int)) 8 156 7 336 [.ref x, .int p1, .int p2, .int p3, .int p4] σ (fun v => some (.int v)) (fun _ => f_X10_end σ x p1 p2 p3 p4) := by
  refine goUi hfl rfl (by decide +kernel) (Nat.le_of_ble_eq_true rfl) ?_
  intro p e s m args below meth c ls R Q nq hRf hRl hRc hRs hnq C hE hM hl ret thr out
  have hl : lv_has ls 6 [(0, .ref x), (1, .int p1), (2, .int p2), (3, .int p3), (4, .int p4)] := hl
  have hx := C.1.1
  have hb := C.1.2.1
  have hts := C.1.2.2.2.2
  have hown := C.1.2.2.2.1
  have hf : (f_X10_end σ x p1 p2 p3 p4) = (f_X10_end σ x p1 p2 p3 p4) := rfl
  have J_129 : ∀ (σ_129 : XS), (f_X10_end σ x p1 p2 p3 p4) = f_X10_end_129 σ x p1 p2 p3 p4 σ_129 → ∀ (H : Heap) (locs : List Loc) (ls : Array Slot), HX D a x e0 A σ_129 s.heap H locs → lv_has ls 6 [(0, .ref x)] → W p l e R s m args below meth c H locs 7 336 Q (F0 m 129 ls []) := by
    intro σ_129 hf H locs ls hM hl
    refine lv_aload_n hx hb dX10_end_129 rfl (lv_at hl 0 rfl) ?_
    refine xt_sightings C hM dX10_end_130 ?_
    refine xl_size (j := 2) C hE hM (by decide) hRf hRl (Nat.le_of_ble_eq_true rfl) (Nat.le_of_ble_eq_true rfl) hl.1 (Nat.le_of_ble_eq_true rfl) (by rw [hRc]; exact Nat.le_of_ble_eq_true rfl) (by rw [hRs]; exact Nat.le_of_ble_eq_true rfl) dX10_end_133 ?_
    refine lv_iconst (v := 1) hx hb dX10_end_138 (by decide) ?_
    refine lv_isub hx hb dX10_end_139 ?_
    exact ret _ _ _ _ _ _ hM dX10_end_140 hf
  refine lv_iload_n hx hb dX10_end_0 rfl (lv_at hl 1 rfl) ?_
  refine lv_iload_n hx hb dX10_end_1 rfl (lv_at hl 2 rfl) ?_
  refine cc_TS (av := [.int p1, .int p2]) C (k_X10_requireDirection l D a e0 A hfl p1 p2) cw_X10_145 (okR_of hRf hRl (Nat.le_of_ble_eq_true rfl) (Nat.le_of_ble_eq_true rfl)) (fun U g mk z q => be_blind g mk z q) (fun U hU hW => EV.at hE va_S.rf hW hU) rfl rfl hl.1 (Nat.le_of_ble_eq_true rfl) (by rw [hRc]; exact Nat.le_of_ble_eq_true rfl) (by rw [hRs]; exact Nat.le_of_ble_eq_true rfl) dX10_end_2 (fun k9 E9 ce9 q9 H9 hF9 z1 z2 z3 z4 z5 z6 => out z1 z2 z3 z4 z5 z6 (Nat.le_of_ble_eq_true rfl) (Nat.le_of_ble_eq_true rfl) (hf.trans (exb_er hF9))) (fun v9_1 hv9_1 => ?_)
  have hf := hf.trans (exb_ok hv9_1)
  have hok := exo_ok hok hv9_1
  refine lv_iload_n hx hb dX10_end_5 rfl (lv_at hl 3 rfl) ?_
  refine lv_iload hx hb dX10_end_6 (lv_at hl 4 rfl) ?_
  refine cc_TS (av := [.int p3, .int p4]) C (k_X10_requireDirection l D a e0 A hfl p3 p4) cw_X10_145 (okR_of hRf hRl (Nat.le_of_ble_eq_true rfl) (Nat.le_of_ble_eq_true rfl)) (fun U g mk z q => be_blind g mk z q) (fun U hU hW => EV.at hE va_S.rf hW hU) rfl rfl hl.1 (Nat.le_of_ble_eq_true rfl) (by rw [hRc]; exact Nat.le_of_ble_eq_true rfl) (by rw [hRs]; exact Nat.le_of_ble_eq_true rfl) dX10_end_8 (fun k9 E9 ce9 q9 H9 hF9 z1 z2 z3 z4 z5 z6 => out z1 z2 z3 z4 z5 z6 (Nat.le_of_ble_eq_true rfl) (Nat.le_of_ble_eq_true rfl) (hf.trans (exb_er hF9))) (fun v9_2 hv9_2 => ?_)
  have hf := hf.trans (exb_ok hv9_2)
  have hok := exo_ok hok hv9_2
  refine lv_aload_n hx hb dX10_end_11 rfl (lv_at hl 0 rfl) ?_
  refine xt_begun C hM dX10_end_12 ?_
  refine lx_astore (lv' := [(5, rv (xr σ 223 x)), (0, .ref x), (1, .int p1), (2, .int p2), (3, .int p3), (4, .int p4)]) hx hb dX10_end_15 hl (by decide) rfl (fun ls hl => ?_)
  refine lx_aload hx hb dX10_end_17 (lv_at hl 0 rfl) ?_
  refine lx_ifnonnull (tgt := 32) hx hb dX10_end_19 (by decide) (fun c_3 => ?_) (fun c_3 => ?_)
  · have hf := hf.trans (if_neg c_3)
    have hok := oif_neg hok c_3
    refine lv_aload_n hx hb dX10_end_32 rfl (lv_at hl 1 rfl) ?_
    refine lx_aload hx hb dX10_end_33 (lv_at hl 0 rfl) ?_
    have hk_4 := And.left hok
    have hok := And.right hok
    refine toRef (xne0 hM.1 hk_4 (by decide)) ?_
    refine xg_X10_150 C hM hk_4 dX10_end_35 ?_
    have hk_5 := And.left hok
    have hok := And.right hok
    refine toRef (xne0 hM.1 hk_5 (by decide)) ?_
    refine lx_aload hx hb dX10_end_38 (lv_at hl 0 rfl) ?_
    refine toRef (xne0 hM.1 hk_4 (by decide)) ?_
    refine xg_X10_154 C hM hk_4 dX10_end_40 ?_
    have ok_6 := And.left hok
    have hok := And.right hok
    refine cc_X (av := [.ref (xr σ 140 (xr σ 223 x)), .int (xi σ 141 (xr σ 223 x))]) (b := x) C hE hM (k_X10_isCloudy l D a x e0 A σ (xr σ 140 (xr σ 223 x)) (xi σ 141 (xr σ 223 x)) ok_6) cw_X10_115 (okR_of hRf hRl (Nat.le_of_ble_eq_true rfl) (Nat.le_of_ble_eq_true rfl)) (xr_net C hM) rfl rfl hl.1 (Nat.le_of_ble_eq_true rfl) (by rw [hRc]; exact Nat.le_of_ble_eq_true rfl) (by rw [hRs]; exact Nat.le_of_ble_eq_true rfl) dX10_end_43 ?_
    refine lv_if_eq (tgt := 59) hx hb dX10_end_46 (by decide) (fun c_7 => ?_) (fun c_7 => ?_)
    · have hf := hf.trans (if_pos c_7)
      have hok := oif_pos hok c_7
      refine lv_aload_n hx hb dX10_end_59 rfl (lv_at hl 1 rfl) ?_
      refine xt_sightings C hM dX10_end_60 ?_
      refine xl_size (j := 2) C hE hM (by decide) hRf hRl (Nat.le_of_ble_eq_true rfl) (Nat.le_of_ble_eq_true rfl) hl.1 (Nat.le_of_ble_eq_true rfl) (by rw [hRc]; exact Nat.le_of_ble_eq_true rfl) (by rw [hRs]; exact Nat.le_of_ble_eq_true rfl) dX10_end_63 ?_
      refine lv_bipush (v := 60) hx hb dX10_end_68 (by decide) ?_
      refine lv_icmp_lt (tgt := 83) hx hb dX10_end_70 (by decide) (fun c_8 => ?_) (fun c_8 => ?_)
      · have hf := hf.trans (if_pos c_8)
        have hok := oif_pos hok c_8
        refine lx_aload hx hb dX10_end_83 (lv_at hl 0 rfl) ?_
        refine toRef (xne0 hM.1 hk_4 (by decide)) ?_
        refine lv_iload_n hx hb dX10_end_85 rfl (lv_at hl 2 rfl) ?_
        refine xp_X10_161 C hM hk_4 dX10_end_86 (fun H locs hM => ?_)
        refine lx_aload hx hb dX10_end_89 (lv_at hl 0 rfl) ?_
        refine toRef (xne0 hM.1 hk_4 (by decide)) ?_
        refine lv_iload_n hx hb dX10_end_91 rfl (lv_at hl 3 rfl) ?_
        refine xp_X10_164 C hM hk_4 dX10_end_92 (fun H locs hM => ?_)
        refine lx_aload hx hb dX10_end_95 (lv_at hl 0 rfl) ?_
        refine toRef (xne0 hM.1 hk_4 (by decide)) ?_
        refine lv_iload_n hx hb dX10_end_97 rfl (lv_at hl 4 rfl) ?_
        refine xp_X10_167 C hM hk_4 dX10_end_98 (fun H locs hM => ?_)
        refine lx_aload hx hb dX10_end_101 (lv_at hl 0 rfl) ?_
        refine toRef (xne0 hM.1 hk_4 (by decide)) ?_
        refine lv_iload hx hb dX10_end_103 (lv_at hl 5 rfl) ?_
        refine xp_X10_170 C hM hk_4 dX10_end_105 (fun H locs hM => ?_)
        refine lv_aload_n hx hb dX10_end_108 rfl (lv_at hl 1 rfl) ?_
        refine xt_sightings C hM dX10_end_109 ?_
        refine lx_aload hx hb dX10_end_112 (lv_at hl 0 rfl) ?_
        refine toRef (xne0 hM.1 hk_4 (by decide)) ?_
        have ok_9 := And.left hok
        have hok := And.right hok
        have ok_10 := And.left hok
        have hok := And.right hok
        refine xl_add (j := 2) (K := 7) C hE hM (by decide) hk_4 (by decide) rfl cb_7 ok_9 ok_10 hRf hRl (Nat.le_of_ble_eq_true rfl) (Nat.le_of_ble_eq_true rfl) hl.1 (Nat.le_of_ble_eq_true rfl) (by rw [hRc]; exact Nat.le_of_ble_eq_true rfl) (by rw [hRs]; exact Nat.le_of_ble_eq_true rfl) dX10_end_114 (fun H locs hM => ?_)
        refine lv_pop hx hb dX10_end_119 rfl ?_
        refine lv_aload_n hx hb dX10_end_120 rfl (lv_at hl 1 rfl) ?_
        refine lx_null hx hb dX10_end_121 ?_
        refine xq_begun C hM dX10_end_122 (fun H locs hM => ?_)
        refine lv_aload_n hx hb dX10_end_125 rfl (lv_at hl 1 rfl) ?_
        have ok_11 := And.left hok
        have hok := And.right hok
        refine cc_XM (av := []) (b := x) (N := 0) (Or.inr (fun _ => rfl)) C hE hM (k_X10_gatherFireballs l D a x e0 A (xR (xAdd (xI (xI (xI (xI σ 145 (xr σ 223 x) p1) 146 (xr σ 223 x) p2) 147 (xr σ 223 x) p3) 148 (xr σ 223 x) p4) 2 (xr σ 223 x)) 223 x 0) ok_11) cw_X10_108 (okR_of hRf hRl (Nat.le_of_ble_eq_true rfl) (Nat.le_of_ble_eq_true rfl)) (xr_net C hM) rfl rfl hl.1 (Nat.le_of_ble_eq_true rfl) (by rw [hRc]; exact Nat.le_of_ble_eq_true rfl) (by rw [hRs]; exact Nat.le_of_ble_eq_true rfl) dX10_end_126 (fun H locs hM => ?_)
        exact J_129 ((f_X10_gatherFireballs (xR (xAdd (xI (xI (xI (xI σ 145 (xr σ 223 x) p1) 146 (xr σ 223 x) p2) 147 (xr σ 223 x) p3) 148 (xr σ 223 x) p4) 2 (xr σ 223 x)) 223 x 0) x).2) hf _ _ ls hM (lv_sub hl [1] rfl)
      · have hf := hf.trans (if_neg c_8)
        have hok := oif_neg hok c_8
        obtain ⟨sa, hsr⟩ := hE.2.2.1 _ str_159
        exact thr (k := 2) thr_89 hsr (hl.1.trans C.1.2.2.1.symm) dX10_end_73 dX10_end_76 (Or.inl ⟨dX10_end_77, dX10_end_79, dX10_end_82⟩) (by rw [hRf]; exact Nat.le_of_ble_eq_true rfl) (by rw [hRl]; exact Nat.le_of_ble_eq_true rfl) (Nat.le_of_ble_eq_true rfl) (Nat.le_of_ble_eq_true rfl) hf
    · have hf := hf.trans (if_neg c_7)
      have hok := oif_neg hok c_7
      obtain ⟨sa, hsr⟩ := hE.2.2.1 _ str_157
      exact thr (k := 2) thr_89 hsr (hl.1.trans C.1.2.2.1.symm) dX10_end_49 dX10_end_52 (Or.inl ⟨dX10_end_53, dX10_end_55, dX10_end_58⟩) (by rw [hRf]; exact Nat.le_of_ble_eq_true rfl) (by rw [hRl]; exact Nat.le_of_ble_eq_true rfl) (Nat.le_of_ble_eq_true rfl) (Nat.le_of_ble_eq_true rfl) hf
  · have hf := hf.trans (if_pos c_3)
    have hok := oif_pos hok c_3
    obtain ⟨sa, hsr⟩ := hE.2.2.1 _ str_148
    exact thr (k := 2) thr_89 hsr (hl.1.trans C.1.2.2.1.symm) dX10_end_22 dX10_end_25 (Or.inl ⟨dX10_end_26, dX10_end_28, dX10_end_31⟩) (by rw [hRf]; exact Nat.le_of_ble_eq_true rfl) (by rw [hRl]; exact Nat.le_of_ble_eq_true rfl) (Nat.le_of_ble_eq_true rfl) (Nat.le_of_ble_eq_true rfl) hf
def f_X10_existingSighting_17 (σ : XS) (x : Nat) (p1 : Int32) : Except Nat (Nat) := .error 3
def f_X10_existingSighting (σ : XS) (x : Nat) (p1 : Int32) : Except Nat (Nat) := (if p1 < 0 then (f_X10_existingSighting_17 σ x p1) else (if p1 < (nI (xn σ 2)) then .ok (xe σ 2 (ix p1)) else (f_X10_existingSighting_17 σ x p1)))
def of_X10_existingSighting (σ : XS) (x : Nat) (p1 : Int32) : Prop := (oif (p1 < 0) True (oif (p1 < (nI (xn σ 2))) (vp_in p1 (xn σ 2) ∧ ((xk σ (xe σ 2 (ix p1))) = 7 ∧ True)) True))
set_option maxHeartbeats 4000000 in
set_option maxRecDepth 100000 in
theorem k_X10_existingSighting (l : Launch) (D : va_G) (a : Nat → ClassId) (x : Nat) (e0 : Nat) (A : Nat → Prop) (hfl : l.stackTraces = false) (σ : XS) (p1 : Int32) (hok : of_X10_existingSighting σ x p1) : KT0 l yX10_existingSighting cX10_existingSighting 2 ((some (.object "FireNet$Sighting"))) 6 92 1 6 [.ref x, .int p1] (BX D a x e0 A σ) (fun v => some (.ref v)) (f_X10_existingSighting σ x p1) := by
  refine goTa (D := D) (a := a) (e0 := e0) (A := A) (fun _ h => h.1) hfl rfl (by decide +kernel) (Nat.le_of_ble_eq_true rfl) ?_
  intro p e s m args below meth c ls R Q hRf hRl hRc hRs C hB hl ret thr out
  have hE := hB.1
  have hM : HX D a x e0 A σ s.heap s.heap [] := ⟨hB.2, va_S.rf⟩
  have hl : lv_has ls 2 [(0, .ref x), (1, .int p1)] := hl
  have hx := C.1.1
  have hb := C.1.2.1
  have hts := C.1.2.2.2.2
  have hown := C.1.2.2.2.1
  have hf : (f_X10_existingSighting σ x p1) = (f_X10_existingSighting σ x p1) := rfl
  have J_17 : (f_X10_existingSighting σ x p1) = f_X10_existingSighting_17 σ x p1 → ∀ (ls : Array Slot), lv_has ls 2 [] → W p l e R s m args below meth c s.heap [] 0 0 Q (F0 m 17 ls []) := by
    intro hf ls hl
    obtain ⟨sa, hsr⟩ := hE.2.2.1 _ str_363
    exact thr (k := 3) thr_358 hsr (hl.1.trans C.1.2.2.1.symm) dX10_existingSighting_17 dX10_existingSighting_20 (Or.inr ⟨dX10_existingSighting_21, dX10_existingSighting_24, dX10_existingSighting_27⟩) (by rw [hRf]; exact Nat.le_of_ble_eq_true rfl) (by rw [hRl]; exact Nat.le_of_ble_eq_true rfl) (Nat.le_of_ble_eq_true rfl) (Nat.le_of_ble_eq_true rfl) hf
  refine lv_iload_n hx hb dX10_existingSighting_0 rfl (lv_at hl 1 rfl) ?_
  refine lv_if_lt (tgt := 17) hx hb dX10_existingSighting_1 (by decide) (fun c_1 => ?_) (fun c_1 => ?_)
  · have hf := hf.trans (if_pos c_1)
    have hok := oif_pos hok c_1
    exact J_17 hf ls (lv_sub hl [] rfl)
  · have hf := hf.trans (if_neg c_1)
    have hok := oif_neg hok c_1
    refine lv_iload_n hx hb dX10_existingSighting_4 rfl (lv_at hl 1 rfl) ?_
    refine lv_aload_n hx hb dX10_existingSighting_5 rfl (lv_at hl 0 rfl) ?_
    refine xt_sightings C hM dX10_existingSighting_6 ?_
    refine xl_size (j := 2) C hE hM (by decide) hRf hRl (Nat.le_of_ble_eq_true rfl) (Nat.le_of_ble_eq_true rfl) hl.1 (Nat.le_of_ble_eq_true rfl) (by rw [hRc]; exact Nat.le_of_ble_eq_true rfl) (by rw [hRs]; exact Nat.le_of_ble_eq_true rfl) dX10_existingSighting_9 ?_
    refine lv_icmp_lt (tgt := 28) hx hb dX10_existingSighting_14 (by decide) (fun c_2 => ?_) (fun c_2 => ?_)
    · have hf := hf.trans (if_pos c_2)
      have hok := oif_pos hok c_2
      refine lv_aload_n hx hb dX10_existingSighting_28 rfl (lv_at hl 0 rfl) ?_
      refine xt_sightings C hM dX10_existingSighting_29 ?_
      refine lv_iload_n hx hb dX10_existingSighting_32 rfl (lv_at hl 1 rfl) ?_
      have ok_3 := And.left hok
      have hok := And.right hok
      refine xl_get (j := 2) C hE hM (by decide) ok_3 hRf hRl (Nat.le_of_ble_eq_true rfl) (Nat.le_of_ble_eq_true rfl) hl.1 (Nat.le_of_ble_eq_true rfl) (by rw [hRc]; exact Nat.le_of_ble_eq_true rfl) (by rw [hRs]; exact Nat.le_of_ble_eq_true rfl) dX10_existingSighting_33 ?_
      have hk_4 := And.left hok
      have hok := And.right hok
      refine xcast (K := 7) C (xat_7 hM hk_4) rfl q_458 dX10_existingSighting_38 ?_
      refine W.widen (k := 1) (n := 6) (Nat.le_of_ble_eq_true rfl) (Nat.le_of_ble_eq_true rfl) ?_
      exact ret _ _ _ dX10_existingSighting_41 hf
    · have hf := hf.trans (if_neg c_2)
      have hok := oif_neg hok c_2
      exact J_17 hf ls (lv_sub hl [] rfl)
def f_X10_fireball (σ : XS) (x : Nat) (p1 : Int32) : Except Nat (Int32) := (exb (f_X10_existingSighting σ x p1) (fun v9_2 => .ok (xi σ 150 v9_2)))
def of_X10_fireball (σ : XS) (x : Nat) (p1 : Int32) : Prop := (of_X10_existingSighting σ x p1 ∧ (exo (f_X10_existingSighting σ x p1) (fun v9_2 => ((xk σ v9_2) = 7 ∧ True))))
set_option maxHeartbeats 4000000 in
set_option maxRecDepth 100000 in
theorem k_X10_fireball (l : Launch) (D : va_G) (a : Nat → ClassId) (x : Nat) (e0 : Nat) (A : Nat → Prop) (hfl : l.stackTraces = false) (σ : XS) (p1 : Int32) (hok : of_X10_fireball σ x p1) : KT0 l yX10_fireball cX10_fireball 2 ((some .int)) 7 113 1 6 [.ref x, .int p1] (BX D a x e0 A σ) (fun v => some (.int v)) (f_X10_fireball σ x p1) := by
  refine goTi (D := D) (a := a) (e0 := e0) (A := A) (fun _ h => h.1) hfl rfl (by decide +kernel) (Nat.le_of_ble_eq_true rfl) ?_
  intro p e s m args below meth c ls R Q hRf hRl hRc hRs C hB hl ret thr out
  have hE := hB.1
  have hM : HX D a x e0 A σ s.heap s.heap [] := ⟨hB.2, va_S.rf⟩
  have hl : lv_has ls 2 [(0, .ref x), (1, .int p1)] := hl
  have hx := C.1.1
  have hb := C.1.2.1
  have hts := C.1.2.2.2.2
  have hown := C.1.2.2.2.1
  have hf : (f_X10_fireball σ x p1) = (f_X10_fireball σ x p1) := rfl
  refine lv_aload_n hx hb dX10_fireball_0 rfl (lv_at hl 0 rfl) ?_
  refine lv_iload_n hx hb dX10_fireball_1 rfl (lv_at hl 1 rfl) ?_
  have ok_1 := And.left hok
  have hok := And.right hok
  refine cc_TV (av := [.int p1]) (b := x) C hE hM (k_X10_existingSighting l D a x e0 A hfl σ p1 ok_1) cw_X10_173 (okR_of hRf hRl (Nat.le_of_ble_eq_true rfl) (Nat.le_of_ble_eq_true rfl)) (xr_net C hM) rfl rfl hl.1 (Nat.le_of_ble_eq_true rfl) (by rw [hRc]; exact Nat.le_of_ble_eq_true rfl) (by rw [hRs]; exact Nat.le_of_ble_eq_true rfl) dX10_fireball_2 (fun k9 E9 ce9 q9 H9 hF9 z1 z2 z3 z4 z5 z6 => out z1 z2 z3 z4 z5 z6 (Nat.le_of_ble_eq_true rfl) (Nat.le_of_ble_eq_true rfl) (hf.trans (exb_er hF9))) (fun v9_2 hv9_2 => ?_)
  have hf := hf.trans (exb_ok hv9_2)
  have hok := exo_ok hok hv9_2
  have hk_3 := And.left hok
  have hok := And.right hok
  refine xg_X10_177 C hM hk_3 dX10_fireball_5 ?_
  exact ret _ _ _ dX10_fireball_8 hf
def f_X10_spreadLowest_l34_99 (x : Nat) (v2_34 : Int32) (v3_34 : Nat) (w1_34 : Int32) (w4_34 : Int32) (σw_34 : XS) (v1_99 : Int32) (v4_99 : Int32) (σ_99 : XS) : Bool × (Int32 × Int32 × XS) := (true, (v1_99, (v4_99 + 1), σ_99))
def b_X10_spreadLowest_34 (x : Nat) (v2_34 : Int32) (v3_34 : Nat) (w1_34 : Int32) (w4_34 : Int32) (σw_34 : XS) : Bool × (Int32 × Int32 × XS) := (if (nI (xn σw_34 2)) ≤ w4_34 then (false, (w1_34, w4_34, σw_34)) else (if (f_X10_holds (xj σw_34 149 v3_34) w4_34) = 0 then (f_X10_spreadLowest_l34_99 x v2_34 v3_34 w1_34 w4_34 σw_34 w1_34 w4_34 σw_34) else (if (xi σw_34 151 v3_34) ≤ (xi σw_34 151 (xe σw_34 2 (ix w4_34))) then (f_X10_spreadLowest_l34_99 x v2_34 v3_34 w1_34 w4_34 σw_34 w1_34 w4_34 σw_34) else (f_X10_spreadLowest_l34_99 x v2_34 v3_34 w1_34 w4_34 σw_34 1 w4_34 (xI σw_34 151 v3_34 (xi σw_34 151 (xe σw_34 2 (ix w4_34))))))))
def ob_X10_spreadLowest_34 (x : Nat) (v2_34 : Int32) (v3_34 : Nat) (w1_34 : Int32) (w4_34 : Int32) (σw_34 : XS) : Prop := (oif ((nI (xn σw_34 2)) ≤ w4_34) True (vp_in w4_34 (xn σw_34 2) ∧ ((xk σw_34 (xe σw_34 2 (ix w4_34))) = 7 ∧ ((xk σw_34 v3_34) = 7 ∧ True))))
def s_X10_spreadLowest_34 (x : Nat) (v2_34 : Int32) (v3_34 : Nat) (v : Int32 × Int32 × XS) : Bool × (Int32 × Int32 × XS) := b_X10_spreadLowest_34 x v2_34 v3_34 v.1 v.2.1 v.2.2
def os_X10_spreadLowest_34 (x : Nat) (v2_34 : Int32) (v3_34 : Nat) (v : Int32 × Int32 × XS) : Prop := ob_X10_spreadLowest_34 x v2_34 v3_34 v.1 v.2.1 v.2.2
def f_X10_spreadLowest_l4_105 (x : Nat) (w1_4 : Int32) (w2_4 : Int32) (σw_4 : XS) (v1_105 : Int32) (v2_105 : Int32) (σ_105 : XS) : Bool × (Int32 × Int32 × XS) := (true, (v1_105, (v2_105 + 1), σ_105))
def f_X10_spreadLowest_l4_34 (x : Nat) (w1_4 : Int32) (w2_4 : Int32) (σw_4 : XS) (v1_34 : Int32) (v2_34 : Int32) (v3_34 : Nat) (v4_34 : Int32) (σ_34 : XS) : Bool × (Int32 × Int32 × XS) := (f_X10_spreadLowest_l4_105 x w1_4 w2_4 σw_4 ((itr (s_X10_spreadLowest_34 x v2_34 v3_34) FU (v1_34, v4_34, σ_34)).1) v2_34 ((itr (s_X10_spreadLowest_34 x v2_34 v3_34) FU (v1_34, v4_34, σ_34)).2.2))
def of_X10_spreadLowest_l4_34 (x : Nat) (w1_4 : Int32) (w2_4 : Int32) (σw_4 : XS) (v1_34 : Int32) (v2_34 : Int32) (v3_34 : Nat) (v4_34 : Int32) (σ_34 : XS) : Prop := (ito (s_X10_spreadLowest_34 x v2_34 v3_34) (os_X10_spreadLowest_34 x v2_34 v3_34) FU (v1_34, v4_34, σ_34) ∧ True)
def b_X10_spreadLowest_4 (x : Nat) (w1_4 : Int32) (w2_4 : Int32) (σw_4 : XS) : Bool × (Int32 × Int32 × XS) := (if (nI (xn σw_4 2)) ≤ w2_4 then (false, (w1_4, w2_4, σw_4)) else (f_X10_spreadLowest_l4_34 x w1_4 w2_4 σw_4 w1_4 w2_4 (xe σw_4 2 (ix w2_4)) 0 σw_4))
def ob_X10_spreadLowest_4 (x : Nat) (w1_4 : Int32) (w2_4 : Int32) (σw_4 : XS) : Prop := (oif ((nI (xn σw_4 2)) ≤ w2_4) True (vp_in w2_4 (xn σw_4 2) ∧ ((xk σw_4 (xe σw_4 2 (ix w2_4))) = 7 ∧ (of_X10_spreadLowest_l4_34 x w1_4 w2_4 σw_4 w1_4 w2_4 (xe σw_4 2 (ix w2_4)) 0 σw_4))))
def s_X10_spreadLowest_4 (x : Nat) (v : Int32 × Int32 × XS) : Bool × (Int32 × Int32 × XS) := b_X10_spreadLowest_4 x v.1 v.2.1 v.2.2
def os_X10_spreadLowest_4 (x : Nat) (v : Int32 × Int32 × XS) : Prop := ob_X10_spreadLowest_4 x v.1 v.2.1 v.2.2
def f_X10_spreadLowest_111 (σ : XS) (x : Nat) (v1_111 : Int32) (σ_111 : XS) : Int32 × XS := (v1_111, σ_111)
def of_X10_spreadLowest_111 (σ : XS) (x : Nat) (v1_111 : Int32) (σ_111 : XS) : Prop := (zb v1_111 ∧ True)
def f_X10_spreadLowest_4 (σ : XS) (x : Nat) (v1_4 : Int32) (v2_4 : Int32) (σ_4 : XS) : Int32 × XS := (f_X10_spreadLowest_111 σ x ((itr (s_X10_spreadLowest_4 x) FU (v1_4, v2_4, σ_4)).1) ((itr (s_X10_spreadLowest_4 x) FU (v1_4, v2_4, σ_4)).2.2))
def of_X10_spreadLowest_4 (σ : XS) (x : Nat) (v1_4 : Int32) (v2_4 : Int32) (σ_4 : XS) : Prop := (ito (s_X10_spreadLowest_4 x) (os_X10_spreadLowest_4 x) FU (v1_4, v2_4, σ_4) ∧ (of_X10_spreadLowest_111 σ x ((itr (s_X10_spreadLowest_4 x) FU (v1_4, v2_4, σ_4)).1) ((itr (s_X10_spreadLowest_4 x) FU (v1_4, v2_4, σ_4)).2.2)))
def f_X10_spreadLowest (σ : XS) (x : Nat) : Int32 × XS := (f_X10_spreadLowest_4 σ x 0 0 σ)
def of_X10_spreadLowest (σ : XS) (x : Nat) : Prop := (of_X10_spreadLowest_4 σ x 0 0 σ)
set_option maxHeartbeats 4000000 in
set_option maxRecDepth 100000 in
theorem k_X10_spreadLowest (l : Launch) (D : va_G) (a : Nat → ClassId) (x : Nat) (e0 : Nat) (A : Nat → Prop) (σ : XS) (hok : of_X10_spreadLowest σ x) : KX l D a x e0 A yX10_spreadLowest cX10_spreadLowest 6 ((some .boolean)) 3 64 0 0 [.ref x] σ (fun v => some (.int v)) (fun _ => f_X10_spreadLowest σ x) := by
  refine goXz (by decide +kernel) (Nat.le_of_ble_eq_true rfl) ?_
  intro p e s m args below meth c ls R Q nq hRf hRl hRc hRs hnq C hE hM hl ret
  have hl : lv_has ls 6 [(0, .ref x)] := hl
  have hx := C.1.1
  have hb := C.1.2.1
  have hts := C.1.2.2.2.2
  have hown := C.1.2.2.2.1
  have hf : (f_X10_spreadLowest σ x) = (f_X10_spreadLowest σ x) := rfl
  have J_111 : ∀ (v1_111 : Int32) (σ_111 : XS), (f_X10_spreadLowest σ x) = f_X10_spreadLowest_111 σ x v1_111 σ_111 → of_X10_spreadLowest_111 σ x v1_111 σ_111 → ∀ (H : Heap) (locs : List Loc) (ls : Array Slot), HX D a x e0 A σ_111 s.heap H locs → lv_has ls 6 [(1, .int v1_111)] → W p l e R s m args below meth c H locs 0 0 Q (F0 m 111 ls []) := by
    intro v1_111 σ_111 hf hok H locs ls hM hl
    refine lv_iload_n hx hb dX10_spreadLowest_111 rfl (lv_at hl 0 rfl) ?_
    have ok_10 := And.left hok
    have hok := And.right hok
    exact ret _ _ _ _ _ _ hM dX10_spreadLowest_112 ok_10 hf
  have J_4 : ∀ (v1_4 : Int32) (v2_4 : Int32) (σ_4 : XS), (f_X10_spreadLowest σ x) = f_X10_spreadLowest_4 σ x v1_4 v2_4 σ_4 → of_X10_spreadLowest_4 σ x v1_4 v2_4 σ_4 → ∀ (H : Heap) (locs : List Loc) (ls : Array Slot), HX D a x e0 A σ_4 s.heap H locs → lv_has ls 6 [(0, .ref x), (1, .int v1_4), (2, .int v2_4)] → W p l e R s m args below meth c H locs 0 0 Q (F0 m 4 ls []) := by
    intro v1_4 v2_4 σ_4 hf hok H locs ls hM hl
    refine itr_W (f := (s_X10_spreadLowest_4 x)) (o := (os_X10_spreadLowest_4 x)) (fun (v : Int32 × Int32 × XS) => ∀ (H : Heap) (locs : List Loc) (ls : Array Slot), HX D a x e0 A v.2.2 s.heap H locs → lv_has ls 6 [(0, .ref x), (1, .int v.1), (2, .int v.2.1)] → W p l e R s m args below meth c H locs 0 0 Q (F0 m 4 ls [])) (fun (v : Int32 × Int32 × XS) => ∀ (H : Heap) (locs : List Loc) (ls : Array Slot), HX D a x e0 A v.2.2 s.heap H locs → lv_has ls 6 [(1, .int v.1)] → W p l e R s m args below meth c H locs 0 0 Q (F0 m 111 ls [])) ?_ FU (v1_4, v2_4, σ_4) (And.left hok) ?_ _ _ ls hM (lv_sub hl [0, 1, 2] rfl)
    · intro v hov kc ke
      obtain ⟨w1_4, w2_4, σw_4⟩ := v
      have hok : ob_X10_spreadLowest_4 x w1_4 w2_4 σw_4 := hov
      change ∀ v', (b_X10_spreadLowest_4 x w1_4 w2_4 σw_4) = (true, v') → _ at kc
      change ∀ v', (b_X10_spreadLowest_4 x w1_4 w2_4 σw_4) = (false, v') → _ at ke
      have hf : (b_X10_spreadLowest_4 x w1_4 w2_4 σw_4) = (b_X10_spreadLowest_4 x w1_4 w2_4 σw_4) := rfl
      intro H locs ls hM hl
      have J_l4_105 : ∀ (v1_105 : Int32) (v2_105 : Int32) (σ_105 : XS), (b_X10_spreadLowest_4 x w1_4 w2_4 σw_4) = f_X10_spreadLowest_l4_105 x w1_4 w2_4 σw_4 v1_105 v2_105 σ_105 → ∀ (H : Heap) (locs : List Loc) (ls : Array Slot), HX D a x e0 A σ_105 s.heap H locs → lv_has ls 6 [(0, .ref x), (1, .int v1_105), (2, .int v2_105)] → W p l e R s m args below meth c H locs 0 0 Q (F0 m 105 ls []) := by
        intro v1_105 v2_105 σ_105 hf H locs ls hM hl
        refine lv_iinc (v := (v2_105 + 1)) (lv' := [(2, .int (v2_105 + 1)), (0, .ref x), (1, .int v1_105)]) hx hb dX10_spreadLowest_105 hl (k := 2) rfl rfl (by decide) rfl (fun ls hl => ?_)
        refine lv_goto (tgt := 4) hx hb dX10_spreadLowest_108 (by decide) ?_
        exact kc (v1_105, (v2_105 + 1), σ_105) hf H locs ls hM (lv_sub hl [1, 2, 0] rfl)
      have J_l4_34 : ∀ (v1_34 : Int32) (v2_34 : Int32) (v3_34 : Nat) (v4_34 : Int32) (σ_34 : XS), (b_X10_spreadLowest_4 x w1_4 w2_4 σw_4) = f_X10_spreadLowest_l4_34 x w1_4 w2_4 σw_4 v1_34 v2_34 v3_34 v4_34 σ_34 → of_X10_spreadLowest_l4_34 x w1_4 w2_4 σw_4 v1_34 v2_34 v3_34 v4_34 σ_34 → ∀ (H : Heap) (locs : List Loc) (ls : Array Slot), HX D a x e0 A σ_34 s.heap H locs → lv_has ls 6 [(0, .ref x), (1, .int v1_34), (2, .int v2_34), (3, .ref v3_34), (4, .int v4_34)] → W p l e R s m args below meth c H locs 0 0 Q (F0 m 34 ls []) := by
        intro v1_34 v2_34 v3_34 v4_34 σ_34 hf hok H locs ls hM hl
        refine itr_W (f := (s_X10_spreadLowest_34 x v2_34 v3_34)) (o := (os_X10_spreadLowest_34 x v2_34 v3_34)) (fun (v : Int32 × Int32 × XS) => ∀ (H : Heap) (locs : List Loc) (ls : Array Slot), HX D a x e0 A v.2.2 s.heap H locs → lv_has ls 6 [(0, .ref x), (1, .int v.1), (2, .int v2_34), (3, .ref v3_34), (4, .int v.2.1)] → W p l e R s m args below meth c H locs 0 0 Q (F0 m 34 ls [])) (fun (v : Int32 × Int32 × XS) => ∀ (H : Heap) (locs : List Loc) (ls : Array Slot), HX D a x e0 A v.2.2 s.heap H locs → lv_has ls 6 [(0, .ref x), (1, .int v.1), (2, .int v2_34)] → W p l e R s m args below meth c H locs 0 0 Q (F0 m 105 ls [])) ?_ FU (v1_34, v4_34, σ_34) (And.left hok) ?_ _ _ ls hM (lv_sub hl [0, 1, 2, 3, 4] rfl)
        · intro v hov kc ke
          obtain ⟨w1_34, w4_34, σw_34⟩ := v
          have hok : ob_X10_spreadLowest_34 x v2_34 v3_34 w1_34 w4_34 σw_34 := hov
          change ∀ v', (b_X10_spreadLowest_34 x v2_34 v3_34 w1_34 w4_34 σw_34) = (true, v') → _ at kc
          change ∀ v', (b_X10_spreadLowest_34 x v2_34 v3_34 w1_34 w4_34 σw_34) = (false, v') → _ at ke
          have hf : (b_X10_spreadLowest_34 x v2_34 v3_34 w1_34 w4_34 σw_34) = (b_X10_spreadLowest_34 x v2_34 v3_34 w1_34 w4_34 σw_34) := rfl
          intro H locs ls hM hl
          have J_l34_99 : ∀ (v1_99 : Int32) (v4_99 : Int32) (σ_99 : XS), (b_X10_spreadLowest_34 x v2_34 v3_34 w1_34 w4_34 σw_34) = f_X10_spreadLowest_l34_99 x v2_34 v3_34 w1_34 w4_34 σw_34 v1_99 v4_99 σ_99 → ∀ (H : Heap) (locs : List Loc) (ls : Array Slot), HX D a x e0 A σ_99 s.heap H locs → lv_has ls 6 [(0, .ref x), (1, .int v1_99), (2, .int v2_34), (3, .ref v3_34), (4, .int v4_99)] → W p l e R s m args below meth c H locs 0 0 Q (F0 m 99 ls []) := by
            intro v1_99 v4_99 σ_99 hf H locs ls hM hl
            refine lv_iinc (v := (v4_99 + 1)) (lv' := [(4, .int (v4_99 + 1)), (0, .ref x), (1, .int v1_99), (2, .int v2_34), (3, .ref v3_34)]) hx hb dX10_spreadLowest_99 hl (k := 4) rfl rfl (by decide) rfl (fun ls hl => ?_)
            refine lv_goto (tgt := 34) hx hb dX10_spreadLowest_102 (by decide) ?_
            exact kc (v1_99, (v4_99 + 1), σ_99) hf H locs ls hM (lv_sub hl [1, 2, 3, 4, 0] rfl)
          refine lv_iload hx hb dX10_spreadLowest_34 (lv_at hl 4 rfl) ?_
          refine lv_aload_n hx hb dX10_spreadLowest_36 rfl (lv_at hl 0 rfl) ?_
          refine xt_sightings C hM dX10_spreadLowest_37 ?_
          refine xl_size (j := 2) C hE hM (by decide) hRf hRl (Nat.le_of_ble_eq_true rfl) (Nat.le_of_ble_eq_true rfl) hl.1 (Nat.le_of_ble_eq_true rfl) (Nat.zero_le _) (Nat.zero_le _) dX10_spreadLowest_40 ?_
          refine lv_icmp_ge (tgt := 105) hx hb dX10_spreadLowest_45 (by decide) (fun c_4 => ?_) (fun c_4 => ?_)
          · have hf := hf.trans (if_pos c_4)
            have hok := oif_pos hok c_4
            exact ke (w1_34, w4_34, σw_34) hf H locs ls hM (lv_sub hl [0, 1, 2] rfl)
          · have hf := hf.trans (if_neg c_4)
            have hok := oif_neg hok c_4
            refine lv_aload_n hx hb dX10_spreadLowest_48 rfl (lv_at hl 0 rfl) ?_
            refine xt_sightings C hM dX10_spreadLowest_49 ?_
            refine lv_iload hx hb dX10_spreadLowest_52 (lv_at hl 4 rfl) ?_
            have ok_5 := And.left hok
            have hok := And.right hok
            refine xl_get (j := 2) C hE hM (by decide) ok_5 hRf hRl (Nat.le_of_ble_eq_true rfl) (Nat.le_of_ble_eq_true rfl) hl.1 (Nat.le_of_ble_eq_true rfl) (Nat.zero_le _) (Nat.zero_le _) dX10_spreadLowest_54 ?_
            have hk_6 := And.left hok
            have hok := And.right hok
            refine xcast (K := 7) C (xat_7 hM hk_6) rfl q_458 dX10_spreadLowest_59 ?_
            refine lv_astore (lv' := [(5, .ref (xe σw_34 2 (ix w4_34))), (0, .ref x), (1, .int w1_34), (2, .int v2_34), (3, .ref v3_34), (4, .int w4_34)]) hx hb dX10_spreadLowest_62 hl (by decide) rfl (fun ls hl => ?_)
            refine lv_aload_n hx hb dX10_spreadLowest_64 rfl (lv_at hl 4 rfl) ?_
            have hk_7 := And.left hok
            have hok := And.right hok
            refine xg_X10_180 C hM hk_7 dX10_spreadLowest_65 ?_
            refine lv_iload hx hb dX10_spreadLowest_68 (lv_at hl 5 rfl) ?_
            refine cc_S (av := [.long (xj σw_34 149 v3_34), .int w4_34]) C (k_X10_holds l D a (xj σw_34 149 v3_34) w4_34) cw_X10_401 (okR_of hRf hRl (Nat.le_of_ble_eq_true rfl) (Nat.le_of_ble_eq_true rfl)) rfl rfl hl.1 (Nat.le_of_ble_eq_true rfl) (Nat.zero_le _) (Nat.zero_le _) dX10_spreadLowest_70 ?_
            refine lv_if_eq (tgt := 99) hx hb dX10_spreadLowest_73 (by decide) (fun c_8 => ?_) (fun c_8 => ?_)
            · have hf := hf.trans (if_pos c_8)
              exact J_l34_99 w1_34 w4_34 σw_34 hf _ _ ls hM (lv_sub hl [1, 2, 3, 4, 5] rfl)
            · have hf := hf.trans (if_neg c_8)
              refine lv_aload hx hb dX10_spreadLowest_76 (lv_at hl 0 rfl) ?_
              refine xg_X10_188 C hM hk_6 dX10_spreadLowest_78 ?_
              refine lv_aload_n hx hb dX10_spreadLowest_81 rfl (lv_at hl 4 rfl) ?_
              refine xg_X10_188 C hM hk_7 dX10_spreadLowest_82 ?_
              refine lv_icmp_ge (tgt := 99) hx hb dX10_spreadLowest_85 (by decide) (fun c_9 => ?_) (fun c_9 => ?_)
              · have hf := hf.trans (if_pos c_9)
                exact J_l34_99 w1_34 w4_34 σw_34 hf _ _ ls hM (lv_sub hl [1, 2, 3, 4, 5] rfl)
              · have hf := hf.trans (if_neg c_9)
                refine lv_aload_n hx hb dX10_spreadLowest_88 rfl (lv_at hl 4 rfl) ?_
                refine lv_aload hx hb dX10_spreadLowest_89 (lv_at hl 0 rfl) ?_
                refine xg_X10_188 C hM hk_6 dX10_spreadLowest_91 ?_
                refine xp_X10_188 C hM hk_7 dX10_spreadLowest_94 (fun H locs hM => ?_)
                refine lv_iconst (v := 1) hx hb dX10_spreadLowest_97 (by decide) ?_
                refine lv_istore_n (lv' := [(1, .int 1), (5, .ref (xe σw_34 2 (ix w4_34))), (0, .ref x), (2, .int v2_34), (3, .ref v3_34), (4, .int w4_34)]) hx hb dX10_spreadLowest_98 rfl hl (by decide) rfl (fun ls hl => ?_)
                exact J_l34_99 1 w4_34 (xI σw_34 151 v3_34 (xi σw_34 151 (xe σw_34 2 (ix w4_34)))) hf _ _ ls hM (lv_sub hl [2, 0, 3, 4, 5] rfl)
        · have hok := And.right hok
          intro H locs ls hM hl
          exact J_l4_105 ((itr (s_X10_spreadLowest_34 x v2_34 v3_34) FU (v1_34, v4_34, σ_34)).1) v2_34 ((itr (s_X10_spreadLowest_34 x v2_34 v3_34) FU (v1_34, v4_34, σ_34)).2.2) hf _ _ ls hM (lv_sub hl [0, 1, 2] rfl)
      refine lv_iload_n hx hb dX10_spreadLowest_4 rfl (lv_at hl 2 rfl) ?_
      refine lv_aload_n hx hb dX10_spreadLowest_5 rfl (lv_at hl 0 rfl) ?_
      refine xt_sightings C hM dX10_spreadLowest_6 ?_
      refine xl_size (j := 2) C hE hM (by decide) hRf hRl (Nat.le_of_ble_eq_true rfl) (Nat.le_of_ble_eq_true rfl) hl.1 (Nat.le_of_ble_eq_true rfl) (Nat.zero_le _) (Nat.zero_le _) dX10_spreadLowest_9 ?_
      refine lv_icmp_ge (tgt := 111) hx hb dX10_spreadLowest_14 (by decide) (fun c_1 => ?_) (fun c_1 => ?_)
      · have hf := hf.trans (if_pos c_1)
        have hok := oif_pos hok c_1
        exact ke (w1_4, w2_4, σw_4) hf H locs ls hM (lv_sub hl [1] rfl)
      · have hf := hf.trans (if_neg c_1)
        have hok := oif_neg hok c_1
        refine lv_aload_n hx hb dX10_spreadLowest_17 rfl (lv_at hl 0 rfl) ?_
        refine xt_sightings C hM dX10_spreadLowest_18 ?_
        refine lv_iload_n hx hb dX10_spreadLowest_21 rfl (lv_at hl 2 rfl) ?_
        have ok_2 := And.left hok
        have hok := And.right hok
        refine xl_get (j := 2) C hE hM (by decide) ok_2 hRf hRl (Nat.le_of_ble_eq_true rfl) (Nat.le_of_ble_eq_true rfl) hl.1 (Nat.le_of_ble_eq_true rfl) (Nat.zero_le _) (Nat.zero_le _) dX10_spreadLowest_22 ?_
        have hk_3 := And.left hok
        have hok := And.right hok
        refine xcast (K := 7) C (xat_7 hM hk_3) rfl q_458 dX10_spreadLowest_27 ?_
        refine lv_astore_n (lv' := [(3, .ref (xe σw_4 2 (ix w2_4))), (0, .ref x), (1, .int w1_4), (2, .int w2_4)]) hx hb dX10_spreadLowest_30 rfl hl (by decide) rfl (fun ls hl => ?_)
        refine lv_iconst (v := 0) hx hb dX10_spreadLowest_31 (by decide) ?_
        refine lv_istore (lv' := [(4, .int 0), (3, .ref (xe σw_4 2 (ix w2_4))), (0, .ref x), (1, .int w1_4), (2, .int w2_4)]) hx hb dX10_spreadLowest_32 hl (by decide) rfl (fun ls hl => ?_)
        exact J_l4_34 w1_4 w2_4 (xe σw_4 2 (ix w2_4)) 0 σw_4 hf hok _ _ ls hM (lv_sub hl [2, 3, 4, 1, 0] rfl)
    · have hok := And.right hok
      intro H locs ls hM hl
      exact J_111 ((itr (s_X10_spreadLowest_4 x) FU (v1_4, v2_4, σ_4)).1) ((itr (s_X10_spreadLowest_4 x) FU (v1_4, v2_4, σ_4)).2.2) hf hok _ _ ls hM (lv_sub hl [0] rfl)
  refine lv_iconst (v := 0) hx hb dX10_spreadLowest_0 (by decide) ?_
  refine lv_istore_n (lv' := [(1, .int 0), (0, .ref x)]) hx hb dX10_spreadLowest_1 rfl hl (by decide) rfl (fun ls hl => ?_)
  refine lv_iconst (v := 0) hx hb dX10_spreadLowest_2 (by decide) ?_
  refine lv_istore_n (lv' := [(2, .int 0), (1, .int 0), (0, .ref x)]) hx hb dX10_spreadLowest_3 rfl hl (by decide) rfl (fun ls hl => ?_)
  exact J_4 0 0 σ hf hok _ _ ls hM (lv_sub hl [2, 1, 0] rfl)
def b_X10_fireballAnew_19 (x : Nat) (v2_19 : Nat) (w3_19 : Int32) (σw_19 : XS) : Bool × (Int32 × XS) := (if (nI (xn σw_19 2)) ≤ w3_19 then (false, (w3_19, σw_19)) else (true, ((w3_19 + 1), (xI σw_19 151 (xe σw_19 2 (ix w3_19)) w3_19))))
def ob_X10_fireballAnew_19 (x : Nat) (v2_19 : Nat) (w3_19 : Int32) (σw_19 : XS) : Prop := (oif ((nI (xn σw_19 2)) ≤ w3_19) True (vp_in w3_19 (xn σw_19 2) ∧ ((xk σw_19 (xe σw_19 2 (ix w3_19))) = 7 ∧ True)))
def s_X10_fireballAnew_19 (x : Nat) (v2_19 : Nat) (v : Int32 × XS) : Bool × (Int32 × XS) := b_X10_fireballAnew_19 x v2_19 v.1 v.2
def os_X10_fireballAnew_19 (x : Nat) (v2_19 : Nat) (v : Int32 × XS) : Prop := ob_X10_fireballAnew_19 x v2_19 v.1 v.2
def f_X10_fireballAnew_l60_82 (x : Nat) (v2_60 : Nat) (w3_60 : Int32) (w4_60 : Int32) (σw_60 : XS) (v4_82 : Int32) (t0_82 : Int32) (σ_82 : XS) : Bool × (Int32 × Int32 × XS) := (true, (t0_82, (v4_82 + 1), σ_82))
def b_X10_fireballAnew_60 (x : Nat) (v2_60 : Nat) (w3_60 : Int32) (w4_60 : Int32) (σw_60 : XS) : Bool × (Int32 × Int32 × XS) := (if w3_60 = 0 then (false, (w3_60, w4_60, σw_60)) else (if (nI (xn σw_60 2)) ≤ w4_60 then (false, (w3_60, w4_60, σw_60)) else (f_X10_fireballAnew_l60_82 x v2_60 w3_60 w4_60 σw_60 w4_60 ((f_X10_spreadLowest σw_60 x).1) ((f_X10_spreadLowest σw_60 x).2))))
def ob_X10_fireballAnew_60 (x : Nat) (v2_60 : Nat) (w3_60 : Int32) (w4_60 : Int32) (σw_60 : XS) : Prop := (oif (w3_60 = 0) True (oif ((nI (xn σw_60 2)) ≤ w4_60) True (of_X10_spreadLowest σw_60 x ∧ True)))
def s_X10_fireballAnew_60 (x : Nat) (v2_60 : Nat) (v : Int32 × Int32 × XS) : Bool × (Int32 × Int32 × XS) := b_X10_fireballAnew_60 x v2_60 v.1 v.2.1 v.2.2
def os_X10_fireballAnew_60 (x : Nat) (v2_60 : Nat) (v : Int32 × Int32 × XS) : Prop := ob_X10_fireballAnew_60 x v2_60 v.1 v.2.1 v.2.2
def f_X10_fireballAnew_89 (σ : XS) (x : Nat) (p1 : Int32) (v2_89 : Nat) (σ_89 : XS) : Except Nat (Int32 × XS) := .ok ((xi σ_89 151 v2_89), σ_89)
def of_X10_fireballAnew_89 (σ : XS) (x : Nat) (p1 : Int32) (v2_89 : Nat) (σ_89 : XS) : Prop := ((xk σ_89 v2_89) = 7 ∧ True)
def f_X10_fireballAnew_60 (σ : XS) (x : Nat) (p1 : Int32) (v2_60 : Nat) (v3_60 : Int32) (v4_60 : Int32) (σ_60 : XS) : Except Nat (Int32 × XS) := (f_X10_fireballAnew_89 σ x p1 v2_60 ((itr (s_X10_fireballAnew_60 x v2_60) FU (v3_60, v4_60, σ_60)).2.2))
def of_X10_fireballAnew_60 (σ : XS) (x : Nat) (p1 : Int32) (v2_60 : Nat) (v3_60 : Int32) (v4_60 : Int32) (σ_60 : XS) : Prop := (ito (s_X10_fireballAnew_60 x v2_60) (os_X10_fireballAnew_60 x v2_60) FU (v3_60, v4_60, σ_60) ∧ (of_X10_fireballAnew_89 σ x p1 v2_60 ((itr (s_X10_fireballAnew_60 x v2_60) FU (v3_60, v4_60, σ_60)).2.2)))
def f_X10_fireballAnew_55 (σ : XS) (x : Nat) (p1 : Int32) (v2_55 : Nat) (σ_55 : XS) : Except Nat (Int32 × XS) := (f_X10_fireballAnew_60 σ x p1 v2_55 1 0 σ_55)
def of_X10_fireballAnew_55 (σ : XS) (x : Nat) (p1 : Int32) (v2_55 : Nat) (σ_55 : XS) : Prop := (of_X10_fireballAnew_60 σ x p1 v2_55 1 0 σ_55)
def f_X10_fireballAnew_19 (σ : XS) (x : Nat) (p1 : Int32) (v2_19 : Nat) (v3_19 : Int32) (σ_19 : XS) : Except Nat (Int32 × XS) := (f_X10_fireballAnew_55 σ x p1 v2_19 ((itr (s_X10_fireballAnew_19 x v2_19) FU (v3_19, σ_19)).2))
def of_X10_fireballAnew_19 (σ : XS) (x : Nat) (p1 : Int32) (v2_19 : Nat) (v3_19 : Int32) (σ_19 : XS) : Prop := (ito (s_X10_fireballAnew_19 x v2_19) (os_X10_fireballAnew_19 x v2_19) FU (v3_19, σ_19) ∧ (of_X10_fireballAnew_55 σ x p1 v2_19 ((itr (s_X10_fireballAnew_19 x v2_19) FU (v3_19, σ_19)).2)))
def f_X10_fireballAnew (σ : XS) (x : Nat) (p1 : Int32) : Except Nat (Int32 × XS) := (exb (f_X10_existingSighting σ x p1) (fun v9_2 => (if (lg_cmp (xj σ 149 v9_2) 0) = 0 then .ok ((-1), σ) else (f_X10_fireballAnew_19 σ x p1 v9_2 0 σ))))
def of_X10_fireballAnew (σ : XS) (x : Nat) (p1 : Int32) : Prop := (of_X10_existingSighting σ x p1 ∧ (exo (f_X10_existingSighting σ x p1) (fun v9_2 => ((xk σ v9_2) = 7 ∧ (oif ((lg_cmp (xj σ 149 v9_2) 0) = 0) True (of_X10_fireballAnew_19 σ x p1 v9_2 0 σ))))))
set_option maxHeartbeats 4000000 in
set_option maxRecDepth 100000 in
theorem k_X10_fireballAnew (l : Launch) (D : va_G) (a : Nat → ClassId) (x : Nat) (e0 : Nat) (A : Nat → Prop) (hfl : l.stackTraces = false) (σ : XS) (p1 : Int32) (hok : of_X10_fireballAnew σ x p1) : KTm l D a x e0 A yX10_fireballAnew cX10_fireballAnew 5 ((some .int)) 7 113 1 6 [.ref x, .int p1] σ (fun v => some (.int v)) (fun _ => f_X10_fireballAnew σ x p1) := by
  refine goUi hfl rfl (by decide +kernel) (Nat.le_of_ble_eq_true rfl) ?_
  intro p e s m args below meth c ls R Q nq hRf hRl hRc hRs hnq C hE hM hl ret thr out
  have hl : lv_has ls 5 [(0, .ref x), (1, .int p1)] := hl
  have hx := C.1.1
  have hb := C.1.2.1
  have hts := C.1.2.2.2.2
  have hown := C.1.2.2.2.1
  have hf : (f_X10_fireballAnew σ x p1) = (f_X10_fireballAnew σ x p1) := rfl
  have J_89 : ∀ (v2_89 : Nat) (σ_89 : XS), (f_X10_fireballAnew σ x p1) = f_X10_fireballAnew_89 σ x p1 v2_89 σ_89 → of_X10_fireballAnew_89 σ x p1 v2_89 σ_89 → ∀ (H : Heap) (locs : List Loc) (ls : Array Slot), HX D a x e0 A σ_89 s.heap H locs → lv_has ls 5 [(2, .ref v2_89)] → W p l e R s m args below meth c H locs 1 6 Q (F0 m 89 ls []) := by
    intro v2_89 σ_89 hf hok H locs ls hM hl
    refine lv_aload_n hx hb dX10_fireballAnew_89 rfl (lv_at hl 0 rfl) ?_
    have hk_11 := And.left hok
    have hok := And.right hok
    refine xg_X10_188 C hM hk_11 dX10_fireballAnew_90 ?_
    exact ret _ _ _ _ _ _ hM dX10_fireballAnew_93 hf
  have J_60 : ∀ (v2_60 : Nat) (v3_60 : Int32) (v4_60 : Int32) (σ_60 : XS), (f_X10_fireballAnew σ x p1) = f_X10_fireballAnew_60 σ x p1 v2_60 v3_60 v4_60 σ_60 → of_X10_fireballAnew_60 σ x p1 v2_60 v3_60 v4_60 σ_60 → ∀ (H : Heap) (locs : List Loc) (ls : Array Slot), HX D a x e0 A σ_60 s.heap H locs → lv_has ls 5 [(0, .ref x), (2, .ref v2_60), (3, .int v3_60), (4, .int v4_60)] → W p l e R s m args below meth c H locs 1 6 Q (F0 m 60 ls []) := by
    intro v2_60 v3_60 v4_60 σ_60 hf hok H locs ls hM hl
    refine itr_W (f := (s_X10_fireballAnew_60 x v2_60)) (o := (os_X10_fireballAnew_60 x v2_60)) (fun (v : Int32 × Int32 × XS) => ∀ (H : Heap) (locs : List Loc) (ls : Array Slot), HX D a x e0 A v.2.2 s.heap H locs → lv_has ls 5 [(0, .ref x), (2, .ref v2_60), (3, .int v.1), (4, .int v.2.1)] → W p l e R s m args below meth c H locs 1 6 Q (F0 m 60 ls [])) (fun (v : Int32 × Int32 × XS) => ∀ (H : Heap) (locs : List Loc) (ls : Array Slot), HX D a x e0 A v.2.2 s.heap H locs → lv_has ls 5 [(2, .ref v2_60)] → W p l e R s m args below meth c H locs 1 6 Q (F0 m 89 ls [])) ?_ FU (v3_60, v4_60, σ_60) (And.left hok) ?_ _ _ ls hM (lv_sub hl [0, 1, 2, 3] rfl)
    · intro v hov kc ke
      obtain ⟨w3_60, w4_60, σw_60⟩ := v
      have hok : ob_X10_fireballAnew_60 x v2_60 w3_60 w4_60 σw_60 := hov
      change ∀ v', (b_X10_fireballAnew_60 x v2_60 w3_60 w4_60 σw_60) = (true, v') → _ at kc
      change ∀ v', (b_X10_fireballAnew_60 x v2_60 w3_60 w4_60 σw_60) = (false, v') → _ at ke
      have hf : (b_X10_fireballAnew_60 x v2_60 w3_60 w4_60 σw_60) = (b_X10_fireballAnew_60 x v2_60 w3_60 w4_60 σw_60) := rfl
      intro H locs ls hM hl
      have J_l60_82 : ∀ (v4_82 : Int32) (t0_82 : Int32) (σ_82 : XS), (b_X10_fireballAnew_60 x v2_60 w3_60 w4_60 σw_60) = f_X10_fireballAnew_l60_82 x v2_60 w3_60 w4_60 σw_60 v4_82 t0_82 σ_82 → ∀ (H : Heap) (locs : List Loc) (ls : Array Slot), HX D a x e0 A σ_82 s.heap H locs → lv_has ls 5 [(0, .ref x), (2, .ref v2_60), (4, .int v4_82)] → W p l e R s m args below meth c H locs 1 6 Q (F0 m 82 ls [.int t0_82]) := by
        intro v4_82 t0_82 σ_82 hf H locs ls hM hl
        refine lv_istore_n (lv' := [(3, .int t0_82), (0, .ref x), (2, .ref v2_60), (4, .int v4_82)]) hx hb dX10_fireballAnew_82 rfl hl (by decide) rfl (fun ls hl => ?_)
        refine lv_iinc (v := (v4_82 + 1)) (lv' := [(4, .int (v4_82 + 1)), (3, .int t0_82), (0, .ref x), (2, .ref v2_60)]) hx hb dX10_fireballAnew_83 hl (k := 3) rfl rfl (by decide) rfl (fun ls hl => ?_)
        refine lv_goto (tgt := 60) hx hb dX10_fireballAnew_86 (by decide) ?_
        exact kc (t0_82, (v4_82 + 1), σ_82) hf H locs ls hM (lv_sub hl [2, 3, 1, 0] rfl)
      refine lv_iload_n hx hb dX10_fireballAnew_60 rfl (lv_at hl 2 rfl) ?_
      refine lv_if_eq (tgt := 89) hx hb dX10_fireballAnew_61 (by decide) (fun c_8 => ?_) (fun c_8 => ?_)
      · have hf := hf.trans (if_pos c_8)
        have hok := oif_pos hok c_8
        exact ke (w3_60, w4_60, σw_60) hf H locs ls hM (lv_sub hl [1] rfl)
      · have hf := hf.trans (if_neg c_8)
        have hok := oif_neg hok c_8
        refine lv_iload hx hb dX10_fireballAnew_64 (lv_at hl 3 rfl) ?_
        refine lv_aload_n hx hb dX10_fireballAnew_66 rfl (lv_at hl 0 rfl) ?_
        refine xt_sightings C hM dX10_fireballAnew_67 ?_
        refine xl_size (j := 2) C hE hM (by decide) hRf hRl (Nat.le_of_ble_eq_true rfl) (Nat.le_of_ble_eq_true rfl) hl.1 (Nat.le_of_ble_eq_true rfl) (by rw [hRc]; exact Nat.le_of_ble_eq_true rfl) (by rw [hRs]; exact Nat.le_of_ble_eq_true rfl) dX10_fireballAnew_70 ?_
        refine lv_icmp_ge (tgt := 89) hx hb dX10_fireballAnew_75 (by decide) (fun c_9 => ?_) (fun c_9 => ?_)
        · have hf := hf.trans (if_pos c_9)
          have hok := oif_pos hok c_9
          exact ke (w3_60, w4_60, σw_60) hf H locs ls hM (lv_sub hl [1] rfl)
        · have hf := hf.trans (if_neg c_9)
          have hok := oif_neg hok c_9
          refine lv_aload_n hx hb dX10_fireballAnew_78 rfl (lv_at hl 0 rfl) ?_
          have ok_10 := And.left hok
          have hok := And.right hok
          refine cc_XM (av := []) (b := x) (N := 0) (Or.inr (fun _ => rfl)) C hE hM (k_X10_spreadLowest l D a x e0 A σw_60 ok_10) cw_X10_191 (okR_of hRf hRl (Nat.le_of_ble_eq_true rfl) (Nat.le_of_ble_eq_true rfl)) (xr_net C hM) rfl rfl hl.1 (Nat.le_of_ble_eq_true rfl) (by rw [hRc]; exact Nat.le_of_ble_eq_true rfl) (by rw [hRs]; exact Nat.le_of_ble_eq_true rfl) dX10_fireballAnew_79 (fun H locs hM => ?_)
          exact J_l60_82 w4_60 ((f_X10_spreadLowest σw_60 x).1) ((f_X10_spreadLowest σw_60 x).2) hf _ _ ls hM (lv_sub hl [0, 1, 3] rfl)
    · have hok := And.right hok
      intro H locs ls hM hl
      exact J_89 v2_60 ((itr (s_X10_fireballAnew_60 x v2_60) FU (v3_60, v4_60, σ_60)).2.2) hf hok _ _ ls hM (lv_sub hl [0] rfl)
  have J_55 : ∀ (v2_55 : Nat) (σ_55 : XS), (f_X10_fireballAnew σ x p1) = f_X10_fireballAnew_55 σ x p1 v2_55 σ_55 → of_X10_fireballAnew_55 σ x p1 v2_55 σ_55 → ∀ (H : Heap) (locs : List Loc) (ls : Array Slot), HX D a x e0 A σ_55 s.heap H locs → lv_has ls 5 [(0, .ref x), (2, .ref v2_55)] → W p l e R s m args below meth c H locs 1 6 Q (F0 m 55 ls []) := by
    intro v2_55 σ_55 hf hok H locs ls hM hl
    refine lv_iconst (v := 1) hx hb dX10_fireballAnew_55 (by decide) ?_
    refine lv_istore_n (lv' := [(3, .int 1), (0, .ref x), (2, .ref v2_55)]) hx hb dX10_fireballAnew_56 rfl hl (by decide) rfl (fun ls hl => ?_)
    refine lv_iconst (v := 0) hx hb dX10_fireballAnew_57 (by decide) ?_
    refine lv_istore (lv' := [(4, .int 0), (3, .int 1), (0, .ref x), (2, .ref v2_55)]) hx hb dX10_fireballAnew_58 hl (by decide) rfl (fun ls hl => ?_)
    exact J_60 v2_55 1 0 σ_55 hf hok _ _ ls hM (lv_sub hl [2, 3, 1, 0] rfl)
  have J_19 : ∀ (v2_19 : Nat) (v3_19 : Int32) (σ_19 : XS), (f_X10_fireballAnew σ x p1) = f_X10_fireballAnew_19 σ x p1 v2_19 v3_19 σ_19 → of_X10_fireballAnew_19 σ x p1 v2_19 v3_19 σ_19 → ∀ (H : Heap) (locs : List Loc) (ls : Array Slot), HX D a x e0 A σ_19 s.heap H locs → lv_has ls 5 [(0, .ref x), (2, .ref v2_19), (3, .int v3_19)] → W p l e R s m args below meth c H locs 1 6 Q (F0 m 19 ls []) := by
    intro v2_19 v3_19 σ_19 hf hok H locs ls hM hl
    refine itr_W (f := (s_X10_fireballAnew_19 x v2_19)) (o := (os_X10_fireballAnew_19 x v2_19)) (fun (v : Int32 × XS) => ∀ (H : Heap) (locs : List Loc) (ls : Array Slot), HX D a x e0 A v.2 s.heap H locs → lv_has ls 5 [(0, .ref x), (2, .ref v2_19), (3, .int v.1)] → W p l e R s m args below meth c H locs 1 6 Q (F0 m 19 ls [])) (fun (v : Int32 × XS) => ∀ (H : Heap) (locs : List Loc) (ls : Array Slot), HX D a x e0 A v.2 s.heap H locs → lv_has ls 5 [(0, .ref x), (2, .ref v2_19)] → W p l e R s m args below meth c H locs 1 6 Q (F0 m 55 ls [])) ?_ FU (v3_19, σ_19) (And.left hok) ?_ _ _ ls hM (lv_sub hl [0, 1, 2] rfl)
    · intro v hov kc ke
      obtain ⟨w3_19, σw_19⟩ := v
      have hok : ob_X10_fireballAnew_19 x v2_19 w3_19 σw_19 := hov
      change ∀ v', (b_X10_fireballAnew_19 x v2_19 w3_19 σw_19) = (true, v') → _ at kc
      change ∀ v', (b_X10_fireballAnew_19 x v2_19 w3_19 σw_19) = (false, v') → _ at ke
      have hf : (b_X10_fireballAnew_19 x v2_19 w3_19 σw_19) = (b_X10_fireballAnew_19 x v2_19 w3_19 σw_19) := rfl
      intro H locs ls hM hl
      refine lv_iload_n hx hb dX10_fireballAnew_19 rfl (lv_at hl 2 rfl) ?_
      refine lv_aload_n hx hb dX10_fireballAnew_20 rfl (lv_at hl 0 rfl) ?_
      refine xt_sightings C hM dX10_fireballAnew_21 ?_
      refine xl_size (j := 2) C hE hM (by decide) hRf hRl (Nat.le_of_ble_eq_true rfl) (Nat.le_of_ble_eq_true rfl) hl.1 (Nat.le_of_ble_eq_true rfl) (by rw [hRc]; exact Nat.le_of_ble_eq_true rfl) (by rw [hRs]; exact Nat.le_of_ble_eq_true rfl) dX10_fireballAnew_24 ?_
      refine lv_icmp_ge (tgt := 55) hx hb dX10_fireballAnew_29 (by decide) (fun c_5 => ?_) (fun c_5 => ?_)
      · have hf := hf.trans (if_pos c_5)
        have hok := oif_pos hok c_5
        exact ke (w3_19, σw_19) hf H locs ls hM (lv_sub hl [0, 1] rfl)
      · have hf := hf.trans (if_neg c_5)
        have hok := oif_neg hok c_5
        refine lv_aload_n hx hb dX10_fireballAnew_32 rfl (lv_at hl 0 rfl) ?_
        refine xt_sightings C hM dX10_fireballAnew_33 ?_
        refine lv_iload_n hx hb dX10_fireballAnew_36 rfl (lv_at hl 2 rfl) ?_
        have ok_6 := And.left hok
        have hok := And.right hok
        refine xl_get (j := 2) C hE hM (by decide) ok_6 hRf hRl (Nat.le_of_ble_eq_true rfl) (Nat.le_of_ble_eq_true rfl) hl.1 (Nat.le_of_ble_eq_true rfl) (by rw [hRc]; exact Nat.le_of_ble_eq_true rfl) (by rw [hRs]; exact Nat.le_of_ble_eq_true rfl) dX10_fireballAnew_37 ?_
        have hk_7 := And.left hok
        have hok := And.right hok
        refine xcast (K := 7) C (xat_7 hM hk_7) rfl q_458 dX10_fireballAnew_42 ?_
        refine lv_iload_n hx hb dX10_fireballAnew_45 rfl (lv_at hl 2 rfl) ?_
        refine xp_X10_188 C hM hk_7 dX10_fireballAnew_46 (fun H locs hM => ?_)
        refine lv_iinc (v := (w3_19 + 1)) (lv' := [(3, .int (w3_19 + 1)), (0, .ref x), (2, .ref v2_19)]) hx hb dX10_fireballAnew_49 hl (k := 2) rfl rfl (by decide) rfl (fun ls hl => ?_)
        refine lv_goto (tgt := 19) hx hb dX10_fireballAnew_52 (by decide) ?_
        exact kc ((w3_19 + 1), (xI σw_19 151 (xe σw_19 2 (ix w3_19)) w3_19)) hf H locs ls hM (lv_sub hl [1, 2, 0] rfl)
    · have hok := And.right hok
      intro H locs ls hM hl
      exact J_55 v2_19 ((itr (s_X10_fireballAnew_19 x v2_19) FU (v3_19, σ_19)).2) hf hok _ _ ls hM (lv_sub hl [0, 1] rfl)
  refine lv_aload_n hx hb dX10_fireballAnew_0 rfl (lv_at hl 0 rfl) ?_
  refine lv_iload_n hx hb dX10_fireballAnew_1 rfl (lv_at hl 1 rfl) ?_
  have ok_1 := And.left hok
  have hok := And.right hok
  refine cc_TV (av := [.int p1]) (b := x) C hE hM (k_X10_existingSighting l D a x e0 A hfl σ p1 ok_1) cw_X10_173 (okR_of hRf hRl (Nat.le_of_ble_eq_true rfl) (Nat.le_of_ble_eq_true rfl)) (xr_net C hM) rfl rfl hl.1 (Nat.le_of_ble_eq_true rfl) (by rw [hRc]; exact Nat.le_of_ble_eq_true rfl) (by rw [hRs]; exact Nat.le_of_ble_eq_true rfl) dX10_fireballAnew_2 (fun k9 E9 ce9 q9 H9 hF9 z1 z2 z3 z4 z5 z6 => out z1 z2 z3 z4 z5 z6 (Nat.le_of_ble_eq_true rfl) (Nat.le_of_ble_eq_true rfl) (hf.trans (exb_er hF9))) (fun v9_2 hv9_2 => ?_)
  have hf := hf.trans (exb_ok hv9_2)
  have hok := exo_ok hok hv9_2
  refine lv_astore_n (lv' := [(2, .ref v9_2), (0, .ref x), (1, .int p1)]) hx hb dX10_fireballAnew_5 rfl hl (by decide) rfl (fun ls hl => ?_)
  refine lv_aload_n hx hb dX10_fireballAnew_6 rfl (lv_at hl 0 rfl) ?_
  have hk_3 := And.left hok
  have hok := And.right hok
  refine xg_X10_180 C hM hk_3 dX10_fireballAnew_7 ?_
  refine lv_lconst (v := 0) hx hb dX10_fireballAnew_10 (by decide) ?_
  refine W.lcmp hx hb dX10_fireballAnew_11 ?_
  refine lv_if_ne (tgt := 17) hx hb dX10_fireballAnew_12 (by decide) (fun c_4 => ?_) (fun c_4 => ?_)
  · have hf := hf.trans (if_neg c_4)
    have hok := oif_neg hok c_4
    refine lv_iconst (v := 0) hx hb dX10_fireballAnew_17 (by decide) ?_
    refine lv_istore_n (lv' := [(3, .int 0), (2, .ref v9_2), (0, .ref x), (1, .int p1)]) hx hb dX10_fireballAnew_18 rfl hl (by decide) rfl (fun ls hl => ?_)
    exact J_19 v9_2 0 σ hf hok _ _ ls hM (lv_sub hl [2, 1, 0] rfl)
  · have hf := hf.trans (if_pos c_4)
    have hok := oif_pos hok c_4
    refine lv_iconst (v := (-1)) hx hb dX10_fireballAnew_15 (by decide) ?_
    exact ret _ _ _ _ _ _ hM dX10_fireballAnew_16 hf
def f_X10_countFireballs_l6_76 (x : Nat) (p1 : Int32) (p2 : Int32) (p3 : Int32) (σ : XS) (w4_6 : Int32) (w5_6 : Int32) (v4_76 : Int32) (v5_76 : Int32) : Bool × (Int32 × Int32) := (true, (v4_76, (v5_76 + 1)))
def b_X10_countFireballs_6 (x : Nat) (p1 : Int32) (p2 : Int32) (p3 : Int32) (σ : XS) (w4_6 : Int32) (w5_6 : Int32) : Bool × (Int32 × Int32) := (if (nI (xn σ 3)) ≤ w5_6 then (false, (w4_6, w5_6)) else (if (f_X4_exists σ (xe σ 3 (ix w5_6))) = 0 then (f_X10_countFireballs_l6_76 x p1 p2 p3 σ w4_6 w5_6 w4_6 w5_6) else (if (xi σ 100 (xe σ 3 (ix w5_6))) < p1 then (f_X10_countFireballs_l6_76 x p1 p2 p3 σ w4_6 w5_6 w4_6 w5_6) else (if p2 < (xi σ 100 (xe σ 3 (ix w5_6))) then (f_X10_countFireballs_l6_76 x p1 p2 p3 σ w4_6 w5_6 w4_6 w5_6) else (if (lg_cmp (xj σ 111 (xe σ 3 (ix w5_6))) p3.toInt64) < 0 then (f_X10_countFireballs_l6_76 x p1 p2 p3 σ w4_6 w5_6 w4_6 w5_6) else (f_X10_countFireballs_l6_76 x p1 p2 p3 σ w4_6 w5_6 (w4_6 + 1) w5_6))))))
def ob_X10_countFireballs_6 (x : Nat) (p1 : Int32) (p2 : Int32) (p3 : Int32) (σ : XS) (w4_6 : Int32) (w5_6 : Int32) : Prop := (oif ((nI (xn σ 3)) ≤ w5_6) True (vp_in w5_6 (xn σ 3) ∧ ((xk σ (xe σ 3 (ix w5_6))) = 5 ∧ (of_X4_exists σ (xe σ 3 (ix w5_6)) ∧ True))))
def s_X10_countFireballs_6 (x : Nat) (p1 : Int32) (p2 : Int32) (p3 : Int32) (σ : XS) (v : Int32 × Int32) : Bool × (Int32 × Int32) := b_X10_countFireballs_6 x p1 p2 p3 σ v.1 v.2
def os_X10_countFireballs_6 (x : Nat) (p1 : Int32) (p2 : Int32) (p3 : Int32) (σ : XS) (v : Int32 × Int32) : Prop := ob_X10_countFireballs_6 x p1 p2 p3 σ v.1 v.2
def f_X10_countFireballs_82 (σ : XS) (x : Nat) (p1 : Int32) (p2 : Int32) (p3 : Int32) (v4_82 : Int32) : Int32 := v4_82
def f_X10_countFireballs_6 (σ : XS) (x : Nat) (p1 : Int32) (p2 : Int32) (p3 : Int32) (v4_6 : Int32) (v5_6 : Int32) : Int32 := (f_X10_countFireballs_82 σ x p1 p2 p3 ((itr (s_X10_countFireballs_6 x p1 p2 p3 σ) FU (v4_6, v5_6)).1))
def of_X10_countFireballs_6 (σ : XS) (x : Nat) (p1 : Int32) (p2 : Int32) (p3 : Int32) (v4_6 : Int32) (v5_6 : Int32) : Prop := (ito (s_X10_countFireballs_6 x p1 p2 p3 σ) (os_X10_countFireballs_6 x p1 p2 p3 σ) FU (v4_6, v5_6) ∧ True)
def f_X10_countFireballs (σ : XS) (x : Nat) (p1 : Int32) (p2 : Int32) (p3 : Int32) : Int32 := (f_X10_countFireballs_6 σ x p1 p2 p3 0 0)
def of_X10_countFireballs (σ : XS) (x : Nat) (p1 : Int32) (p2 : Int32) (p3 : Int32) : Prop := (of_X10_countFireballs_6 σ x p1 p2 p3 0 0)
set_option maxHeartbeats 4000000 in
set_option maxRecDepth 100000 in
theorem k_X10_countFireballs (l : Launch) (D : va_G) (a : Nat → ClassId) (x : Nat) (e0 : Nat) (A : Nat → Prop) (σ : XS) (p1 : Int32) (p2 : Int32) (p3 : Int32) (hok : of_X10_countFireballs σ x p1 p2 p3) : K0 l yX10_countFireballs cX10_countFireballs 7 ((some .int)) 3 64 [.ref x, .int p1, .int p2, .int p3] (BX D a x e0 A σ) (.int (f_X10_countFireballs σ x p1 p2 p3)) := by
  refine go0i (D := D) (a := a) (by decide +kernel) (fun _ h => h.1.1) (Nat.le_of_ble_eq_true rfl) ?_
  intro p e s m args below meth c ls R Q hRf hRl C hl hB
  obtain ⟨hB, ret⟩ := hB
  have hE := hB.1
  have hM : HX D a x e0 A σ s.heap s.heap [] := ⟨hB.2, va_S.rf⟩
  have hl : lv_has ls 7 [(0, .ref x), (1, .int p1), (2, .int p2), (3, .int p3)] := hl
  have hx := C.1.1
  have hb := C.1.2.1
  have hts := C.1.2.2.2.2
  have hown := C.1.2.2.2.1
  have hf : (f_X10_countFireballs σ x p1 p2 p3) = (f_X10_countFireballs σ x p1 p2 p3) := rfl
  have J_82 : ∀ (v4_82 : Int32), (f_X10_countFireballs σ x p1 p2 p3) = f_X10_countFireballs_82 σ x p1 p2 p3 v4_82 → ∀ (ls : Array Slot), lv_has ls 7 [(4, .int v4_82)] → W p l e R s m args below meth c s.heap [] 0 0 Q (F0 m 82 ls []) := by
    intro v4_82 hf ls hl
    refine lv_iload hx hb dX10_countFireballs_82 (lv_at hl 0 rfl) ?_
    exact ret _ _ _ dX10_countFireballs_84 hf
  have J_6 : ∀ (v4_6 : Int32) (v5_6 : Int32), (f_X10_countFireballs σ x p1 p2 p3) = f_X10_countFireballs_6 σ x p1 p2 p3 v4_6 v5_6 → of_X10_countFireballs_6 σ x p1 p2 p3 v4_6 v5_6 → ∀ (ls : Array Slot), lv_has ls 7 [(0, .ref x), (1, .int p1), (2, .int p2), (3, .int p3), (4, .int v4_6), (5, .int v5_6)] → W p l e R s m args below meth c s.heap [] 0 0 Q (F0 m 6 ls []) := by
    intro v4_6 v5_6 hf hok ls hl
    refine itr_W (f := (s_X10_countFireballs_6 x p1 p2 p3 σ)) (o := (os_X10_countFireballs_6 x p1 p2 p3 σ)) (fun (v : Int32 × Int32) => ∀ (ls : Array Slot), lv_has ls 7 [(0, .ref x), (1, .int p1), (2, .int p2), (3, .int p3), (4, .int v.1), (5, .int v.2)] → W p l e R s m args below meth c s.heap [] 0 0 Q (F0 m 6 ls [])) (fun (v : Int32 × Int32) => ∀ (ls : Array Slot), lv_has ls 7 [(4, .int v.1)] → W p l e R s m args below meth c s.heap [] 0 0 Q (F0 m 82 ls [])) ?_ FU (v4_6, v5_6) (And.left hok) ?_ ls (lv_sub hl [0, 1, 2, 3, 4, 5] rfl)
    · intro v hov kc ke
      obtain ⟨w4_6, w5_6⟩ := v
      have hok : ob_X10_countFireballs_6 x p1 p2 p3 σ w4_6 w5_6 := hov
      change ∀ v', (b_X10_countFireballs_6 x p1 p2 p3 σ w4_6 w5_6) = (true, v') → _ at kc
      change ∀ v', (b_X10_countFireballs_6 x p1 p2 p3 σ w4_6 w5_6) = (false, v') → _ at ke
      have hf : (b_X10_countFireballs_6 x p1 p2 p3 σ w4_6 w5_6) = (b_X10_countFireballs_6 x p1 p2 p3 σ w4_6 w5_6) := rfl
      intro ls hl
      have J_l6_76 : ∀ (v4_76 : Int32) (v5_76 : Int32), (b_X10_countFireballs_6 x p1 p2 p3 σ w4_6 w5_6) = f_X10_countFireballs_l6_76 x p1 p2 p3 σ w4_6 w5_6 v4_76 v5_76 → ∀ (ls : Array Slot), lv_has ls 7 [(0, .ref x), (1, .int p1), (2, .int p2), (3, .int p3), (4, .int v4_76), (5, .int v5_76)] → W p l e R s m args below meth c s.heap [] 0 0 Q (F0 m 76 ls []) := by
        intro v4_76 v5_76 hf ls hl
        refine lv_iinc (v := (v5_76 + 1)) (lv' := [(5, .int (v5_76 + 1)), (0, .ref x), (1, .int p1), (2, .int p2), (3, .int p3), (4, .int v4_76)]) hx hb dX10_countFireballs_76 hl (k := 5) rfl rfl (by decide) rfl (fun ls hl => ?_)
        refine lv_goto (tgt := 6) hx hb dX10_countFireballs_79 (by decide) ?_
        exact kc (v4_76, (v5_76 + 1)) hf ls (lv_sub hl [1, 2, 3, 4, 5, 0] rfl)
      refine lv_iload hx hb dX10_countFireballs_6 (lv_at hl 5 rfl) ?_
      refine lv_aload_n hx hb dX10_countFireballs_8 rfl (lv_at hl 0 rfl) ?_
      refine xt_rows C hM dX10_countFireballs_9 ?_
      refine xl_size (j := 3) C hE hM (by decide) hRf hRl (Nat.le_of_ble_eq_true rfl) (Nat.le_of_ble_eq_true rfl) hl.1 (Nat.le_of_ble_eq_true rfl) (Nat.zero_le _) (Nat.zero_le _) dX10_countFireballs_12 ?_
      refine lv_icmp_ge (tgt := 82) hx hb dX10_countFireballs_17 (by decide) (fun c_1 => ?_) (fun c_1 => ?_)
      · have hf := hf.trans (if_pos c_1)
        have hok := oif_pos hok c_1
        exact ke (w4_6, w5_6) hf ls (lv_sub hl [4] rfl)
      · have hf := hf.trans (if_neg c_1)
        have hok := oif_neg hok c_1
        refine lv_aload_n hx hb dX10_countFireballs_20 rfl (lv_at hl 0 rfl) ?_
        refine xt_rows C hM dX10_countFireballs_21 ?_
        refine lv_iload hx hb dX10_countFireballs_24 (lv_at hl 5 rfl) ?_
        have ok_2 := And.left hok
        have hok := And.right hok
        refine xl_get (j := 3) C hE hM (by decide) ok_2 hRf hRl (Nat.le_of_ble_eq_true rfl) (Nat.le_of_ble_eq_true rfl) hl.1 (Nat.le_of_ble_eq_true rfl) (Nat.zero_le _) (Nat.zero_le _) dX10_countFireballs_26 ?_
        have hk_3 := And.left hok
        have hok := And.right hok
        refine xcast (K := 5) C (xat_5 hM hk_3) rfl q_120 dX10_countFireballs_31 ?_
        refine lv_astore (lv' := [(6, .ref (xe σ 3 (ix w5_6))), (0, .ref x), (1, .int p1), (2, .int p2), (3, .int p3), (4, .int w4_6), (5, .int w5_6)]) hx hb dX10_countFireballs_34 hl (by decide) rfl (fun ls hl => ?_)
        refine lv_aload hx hb dX10_countFireballs_36 (lv_at hl 0 rfl) ?_
        have ok_4 := And.left hok
        have hok := And.right hok
        refine cc_X (av := []) (b := (xe σ 3 (ix w5_6))) C hE hM (k_X4_exists l D a x e0 A σ (xe σ 3 (ix w5_6)) ok_4) cw_X10_365 (okR_of hRf hRl (Nat.le_of_ble_eq_true rfl) (Nat.le_of_ble_eq_true rfl)) (xr_at (K := 5) C hM hk_3 (by decide) rfl) rfl rfl hl.1 (Nat.le_of_ble_eq_true rfl) (Nat.zero_le _) (Nat.zero_le _) dX10_countFireballs_38 ?_
        refine lv_if_eq (tgt := 76) hx hb dX10_countFireballs_41 (by decide) (fun c_5 => ?_) (fun c_5 => ?_)
        · have hf := hf.trans (if_pos c_5)
          exact J_l6_76 w4_6 w5_6 hf ls (lv_sub hl [1, 2, 3, 4, 5, 6] rfl)
        · have hf := hf.trans (if_neg c_5)
          refine lv_aload hx hb dX10_countFireballs_44 (lv_at hl 0 rfl) ?_
          refine xg_X10_419 C hM hk_3 dX10_countFireballs_46 ?_
          refine lv_iload_n hx hb dX10_countFireballs_49 rfl (lv_at hl 2 rfl) ?_
          refine lv_icmp_lt (tgt := 76) hx hb dX10_countFireballs_50 (by decide) (fun c_6 => ?_) (fun c_6 => ?_)
          · have hf := hf.trans (if_pos c_6)
            exact J_l6_76 w4_6 w5_6 hf ls (lv_sub hl [1, 2, 3, 4, 5, 6] rfl)
          · have hf := hf.trans (if_neg c_6)
            refine lv_aload hx hb dX10_countFireballs_53 (lv_at hl 0 rfl) ?_
            refine xg_X10_419 C hM hk_3 dX10_countFireballs_55 ?_
            refine lv_iload_n hx hb dX10_countFireballs_58 rfl (lv_at hl 3 rfl) ?_
            refine lv_icmp_gt (tgt := 76) hx hb dX10_countFireballs_59 (by decide) (fun c_7 => ?_) (fun c_7 => ?_)
            · have hf := hf.trans (if_pos c_7)
              exact J_l6_76 w4_6 w5_6 hf ls (lv_sub hl [1, 2, 3, 4, 5, 6] rfl)
            · have hf := hf.trans (if_neg c_7)
              refine lv_aload hx hb dX10_countFireballs_62 (lv_at hl 0 rfl) ?_
              refine xg_X10_420 C hM hk_3 dX10_countFireballs_64 ?_
              refine lv_iload_n hx hb dX10_countFireballs_67 rfl (lv_at hl 4 rfl) ?_
              refine lv_i2l (v := p3.toInt64) hx hb dX10_countFireballs_68 rfl ?_
              refine W.lcmp hx hb dX10_countFireballs_69 ?_
              refine lv_if_lt (tgt := 76) hx hb dX10_countFireballs_70 (by decide) (fun c_8 => ?_) (fun c_8 => ?_)
              · have hf := hf.trans (if_pos c_8)
                exact J_l6_76 w4_6 w5_6 hf ls (lv_sub hl [1, 2, 3, 4, 5, 6] rfl)
              · have hf := hf.trans (if_neg c_8)
                refine lv_iinc (v := (w4_6 + 1)) (lv' := [(4, .int (w4_6 + 1)), (6, .ref (xe σ 3 (ix w5_6))), (0, .ref x), (1, .int p1), (2, .int p2), (3, .int p3), (5, .int w5_6)]) hx hb dX10_countFireballs_73 hl (k := 5) rfl rfl (by decide) rfl (fun ls hl => ?_)
                exact J_l6_76 (w4_6 + 1) w5_6 hf ls (lv_sub hl [2, 3, 4, 5, 0, 6] rfl)
    · have hok := And.right hok
      intro ls hl
      exact J_82 ((itr (s_X10_countFireballs_6 x p1 p2 p3 σ) FU (v4_6, v5_6)).1) hf ls (lv_sub hl [0] rfl)
  refine lv_iconst (v := 0) hx hb dX10_countFireballs_0 (by decide) ?_
  refine lv_istore (lv' := [(4, .int 0), (0, .ref x), (1, .int p1), (2, .int p2), (3, .int p3)]) hx hb dX10_countFireballs_1 hl (by decide) rfl (fun ls hl => ?_)
  refine lv_iconst (v := 0) hx hb dX10_countFireballs_3 (by decide) ?_
  refine lv_istore (lv' := [(5, .int 0), (4, .int 0), (0, .ref x), (1, .int p1), (2, .int p2), (3, .int p3)]) hx hb dX10_countFireballs_4 hl (by decide) rfl (fun ls hl => ?_)
  exact J_6 0 0 hf hok ls (lv_sub hl [2, 3, 4, 5, 1, 0] rfl)
def f_X10_fireballs (σ : XS) (x : Nat) (p1 : Int32) : Except Nat (Int32) := (exb (f_X10_requireNight p1) (fun v9_1 => .ok (f_X10_countFireballs σ x p1 p1 0)))
def of_X10_fireballs (σ : XS) (x : Nat) (p1 : Int32) : Prop := (exo (f_X10_requireNight p1) (fun v9_1 => (of_X10_countFireballs σ x p1 p1 0 ∧ True)))
set_option maxHeartbeats 4000000 in
set_option maxRecDepth 100000 in
theorem k_X10_fireballs (l : Launch) (D : va_G) (a : Nat → ClassId) (x : Nat) (e0 : Nat) (A : Nat → Prop) (hfl : l.stackTraces = false) (σ : XS) (p1 : Int32) (hok : of_X10_fireballs σ x p1) : KT0 l yX10_fireballs cX10_fireballs 2 ((some .int)) 8 134 1 6 [.ref x, .int p1] (BX D a x e0 A σ) (fun v => some (.int v)) (f_X10_fireballs σ x p1) := by
  refine goTi (D := D) (a := a) (e0 := e0) (A := A) (fun _ h => h.1) hfl rfl (by decide +kernel) (Nat.le_of_ble_eq_true rfl) ?_
  intro p e s m args below meth c ls R Q hRf hRl hRc hRs C hB hl ret thr out
  have hE := hB.1
  have hM : HX D a x e0 A σ s.heap s.heap [] := ⟨hB.2, va_S.rf⟩
  have hl : lv_has ls 2 [(0, .ref x), (1, .int p1)] := hl
  have hx := C.1.1
  have hb := C.1.2.1
  have hts := C.1.2.2.2.2
  have hown := C.1.2.2.2.1
  have hf : (f_X10_fireballs σ x p1) = (f_X10_fireballs σ x p1) := rfl
  refine lv_iload_n hx hb dX10_fireballs_0 rfl (lv_at hl 1 rfl) ?_
  refine cc_TS (av := [.int p1]) C (k_X10_requireNight l D a e0 A hfl p1) cw_X10_111 (okR_of hRf hRl (Nat.le_of_ble_eq_true rfl) (Nat.le_of_ble_eq_true rfl)) (fun U g mk z q => be_blind g mk z q) (fun U hU hW => EV.at hE va_S.rf hW hU) rfl rfl hl.1 (Nat.le_of_ble_eq_true rfl) (by rw [hRc]; exact Nat.le_of_ble_eq_true rfl) (by rw [hRs]; exact Nat.le_of_ble_eq_true rfl) dX10_fireballs_1 (fun k9 E9 ce9 q9 H9 hF9 z1 z2 z3 z4 z5 z6 => out z1 z2 z3 z4 z5 z6 (Nat.le_of_ble_eq_true rfl) (Nat.le_of_ble_eq_true rfl) (hf.trans (exb_er hF9))) (fun v9_1 hv9_1 => ?_)
  have hf := hf.trans (exb_ok hv9_1)
  have hok := exo_ok hok hv9_1
  refine lv_aload_n hx hb dX10_fireballs_4 rfl (lv_at hl 0 rfl) ?_
  refine lv_iload_n hx hb dX10_fireballs_5 rfl (lv_at hl 1 rfl) ?_
  refine lv_iload_n hx hb dX10_fireballs_6 rfl (lv_at hl 1 rfl) ?_
  refine lv_iconst (v := 0) hx hb dX10_fireballs_7 (by decide) ?_
  have ok_2 := And.left hok
  have hok := And.right hok
  refine cc_X (av := [.int p1, .int p1, .int 0]) (b := x) C hE hM (k_X10_countFireballs l D a x e0 A σ p1 p1 0 ok_2) cw_X10_195 (okR_of hRf hRl (Nat.le_of_ble_eq_true rfl) (Nat.le_of_ble_eq_true rfl)) (xr_net C hM) rfl rfl hl.1 (Nat.le_of_ble_eq_true rfl) (by rw [hRc]; exact Nat.le_of_ble_eq_true rfl) (by rw [hRs]; exact Nat.le_of_ble_eq_true rfl) dX10_fireballs_8 ?_
  exact ret _ _ _ dX10_fireballs_11 hf
def f_X10_existingFireball_36 (σ : XS) (x : Nat) (p1 : Int32) : Except Nat (Nat) := .error 3
def f_X10_existingFireball (σ : XS) (x : Nat) (p1 : Int32) : Except Nat (Nat) := (if p1 < 0 then (f_X10_existingFireball_36 σ x p1) else (if (nI (xn σ 3)) ≤ p1 then (f_X10_existingFireball_36 σ x p1) else (if (f_X4_exists σ (xe σ 3 (ix p1))) = 0 then (f_X10_existingFireball_36 σ x p1) else .ok (xe σ 3 (ix p1)))))
def of_X10_existingFireball (σ : XS) (x : Nat) (p1 : Int32) : Prop := (oif (p1 < 0) True (oif ((nI (xn σ 3)) ≤ p1) True (vp_in p1 (xn σ 3) ∧ ((xk σ (xe σ 3 (ix p1))) = 5 ∧ (of_X4_exists σ (xe σ 3 (ix p1)) ∧ (oif ((f_X4_exists σ (xe σ 3 (ix p1))) = 0) True (vp_in p1 (xn σ 3) ∧ True)))))))
set_option maxHeartbeats 4000000 in
set_option maxRecDepth 100000 in
theorem k_X10_existingFireball (l : Launch) (D : va_G) (a : Nat → ClassId) (x : Nat) (e0 : Nat) (A : Nat → Prop) (hfl : l.stackTraces = false) (σ : XS) (p1 : Int32) (hok : of_X10_existingFireball σ x p1) : KT0 l yX10_existingFireball cX10_existingFireball 2 ((some (.object "FireNet$Fireball"))) 6 92 1 6 [.ref x, .int p1] (BX D a x e0 A σ) (fun v => some (.ref v)) (f_X10_existingFireball σ x p1) := by
  refine goTa (D := D) (a := a) (e0 := e0) (A := A) (fun _ h => h.1) hfl rfl (by decide +kernel) (Nat.le_of_ble_eq_true rfl) ?_
  intro p e s m args below meth c ls R Q hRf hRl hRc hRs C hB hl ret thr out
  have hE := hB.1
  have hM : HX D a x e0 A σ s.heap s.heap [] := ⟨hB.2, va_S.rf⟩
  have hl : lv_has ls 2 [(0, .ref x), (1, .int p1)] := hl
  have hx := C.1.1
  have hb := C.1.2.1
  have hts := C.1.2.2.2.2
  have hown := C.1.2.2.2.1
  have hf : (f_X10_existingFireball σ x p1) = (f_X10_existingFireball σ x p1) := rfl
  have J_36 : (f_X10_existingFireball σ x p1) = f_X10_existingFireball_36 σ x p1 → ∀ (ls : Array Slot), lv_has ls 2 [] → W p l e R s m args below meth c s.heap [] 0 0 Q (F0 m 36 ls []) := by
    intro hf ls hl
    obtain ⟨sa, hsr⟩ := hE.2.2.1 _ str_368
    exact thr (k := 3) thr_358 hsr (hl.1.trans C.1.2.2.1.symm) dX10_existingFireball_36 dX10_existingFireball_39 (Or.inr ⟨dX10_existingFireball_40, dX10_existingFireball_43, dX10_existingFireball_46⟩) (by rw [hRf]; exact Nat.le_of_ble_eq_true rfl) (by rw [hRl]; exact Nat.le_of_ble_eq_true rfl) (Nat.le_of_ble_eq_true rfl) (Nat.le_of_ble_eq_true rfl) hf
  refine lv_iload_n hx hb dX10_existingFireball_0 rfl (lv_at hl 1 rfl) ?_
  refine lv_if_lt (tgt := 36) hx hb dX10_existingFireball_1 (by decide) (fun c_1 => ?_) (fun c_1 => ?_)
  · have hf := hf.trans (if_pos c_1)
    have hok := oif_pos hok c_1
    exact J_36 hf ls (lv_sub hl [] rfl)
  · have hf := hf.trans (if_neg c_1)
    have hok := oif_neg hok c_1
    refine lv_iload_n hx hb dX10_existingFireball_4 rfl (lv_at hl 1 rfl) ?_
    refine lv_aload_n hx hb dX10_existingFireball_5 rfl (lv_at hl 0 rfl) ?_
    refine xt_rows C hM dX10_existingFireball_6 ?_
    refine xl_size (j := 3) C hE hM (by decide) hRf hRl (Nat.le_of_ble_eq_true rfl) (Nat.le_of_ble_eq_true rfl) hl.1 (Nat.le_of_ble_eq_true rfl) (by rw [hRc]; exact Nat.le_of_ble_eq_true rfl) (by rw [hRs]; exact Nat.le_of_ble_eq_true rfl) dX10_existingFireball_9 ?_
    refine lv_icmp_ge (tgt := 36) hx hb dX10_existingFireball_14 (by decide) (fun c_2 => ?_) (fun c_2 => ?_)
    · have hf := hf.trans (if_pos c_2)
      have hok := oif_pos hok c_2
      exact J_36 hf ls (lv_sub hl [] rfl)
    · have hf := hf.trans (if_neg c_2)
      have hok := oif_neg hok c_2
      refine lv_aload_n hx hb dX10_existingFireball_17 rfl (lv_at hl 0 rfl) ?_
      refine xt_rows C hM dX10_existingFireball_18 ?_
      refine lv_iload_n hx hb dX10_existingFireball_21 rfl (lv_at hl 1 rfl) ?_
      have ok_3 := And.left hok
      have hok := And.right hok
      refine xl_get (j := 3) C hE hM (by decide) ok_3 hRf hRl (Nat.le_of_ble_eq_true rfl) (Nat.le_of_ble_eq_true rfl) hl.1 (Nat.le_of_ble_eq_true rfl) (by rw [hRc]; exact Nat.le_of_ble_eq_true rfl) (by rw [hRs]; exact Nat.le_of_ble_eq_true rfl) dX10_existingFireball_22 ?_
      have hk_4 := And.left hok
      have hok := And.right hok
      refine xcast (K := 5) C (xat_5 hM hk_4) rfl q_120 dX10_existingFireball_27 ?_
      have ok_5 := And.left hok
      have hok := And.right hok
      refine cc_X (av := []) (b := (xe σ 3 (ix p1))) C hE hM (k_X4_exists l D a x e0 A σ (xe σ 3 (ix p1)) ok_5) cw_X10_365 (okR_of hRf hRl (Nat.le_of_ble_eq_true rfl) (Nat.le_of_ble_eq_true rfl)) (xr_at (K := 5) C hM hk_4 (by decide) rfl) rfl rfl hl.1 (Nat.le_of_ble_eq_true rfl) (by rw [hRc]; exact Nat.le_of_ble_eq_true rfl) (by rw [hRs]; exact Nat.le_of_ble_eq_true rfl) dX10_existingFireball_30 ?_
      refine lv_if_ne (tgt := 47) hx hb dX10_existingFireball_33 (by decide) (fun c_6 => ?_) (fun c_6 => ?_)
      · have hf := hf.trans (if_neg c_6)
        have hok := oif_neg hok c_6
        refine lv_aload_n hx hb dX10_existingFireball_47 rfl (lv_at hl 0 rfl) ?_
        refine xt_rows C hM dX10_existingFireball_48 ?_
        refine lv_iload_n hx hb dX10_existingFireball_51 rfl (lv_at hl 1 rfl) ?_
        have ok_7 := And.left hok
        have hok := And.right hok
        refine xl_get (j := 3) C hE hM (by decide) ok_7 hRf hRl (Nat.le_of_ble_eq_true rfl) (Nat.le_of_ble_eq_true rfl) hl.1 (Nat.le_of_ble_eq_true rfl) (by rw [hRc]; exact Nat.le_of_ble_eq_true rfl) (by rw [hRs]; exact Nat.le_of_ble_eq_true rfl) dX10_existingFireball_52 ?_
        refine xcast (K := 5) C (xat_5 hM hk_4) rfl q_120 dX10_existingFireball_57 ?_
        refine W.widen (k := 1) (n := 6) (Nat.le_of_ble_eq_true rfl) (Nat.le_of_ble_eq_true rfl) ?_
        exact ret _ _ _ dX10_existingFireball_60 hf
      · have hf := hf.trans (if_pos c_6)
        have hok := oif_pos hok c_6
        exact J_36 hf ls (lv_sub hl [] rfl)
def f_X10_told (σ : XS) (x : Nat) (p1 : Int32) (p2 : Int32) : Except Nat (Int64) := (exb (f_X10_existingFireball σ x p1) (fun v9_2 => (exb (f_X10_requireRange p2 0 7) (fun v9_3 => .ok (f_X4_number σ v9_2 p2)))))
def of_X10_told (σ : XS) (x : Nat) (p1 : Int32) (p2 : Int32) : Prop := (of_X10_existingFireball σ x p1 ∧ (exo (f_X10_existingFireball σ x p1) (fun v9_2 => (exo (f_X10_requireRange p2 0 7) (fun v9_3 => (of_X4_number σ v9_2 p2 ∧ ((xk σ v9_2) = 5 ∧ True)))))))
set_option maxHeartbeats 4000000 in
set_option maxRecDepth 100000 in
theorem k_X10_told (l : Launch) (D : va_G) (a : Nat → ClassId) (x : Nat) (e0 : Nat) (A : Nat → Prop) (hfl : l.stackTraces = false) (σ : XS) (p1 : Int32) (p2 : Int32) (hok : of_X10_told σ x p1 p2) : KT0 l yX10_told cX10_told 4 ((some .long)) 7 114 2 12 [.ref x, .int p1, .int p2] (BX D a x e0 A σ) (fun v => some (.long v)) (f_X10_told σ x p1 p2) := by
  refine goTl (D := D) (a := a) (e0 := e0) (A := A) (fun _ h => h.1) hfl rfl (by decide +kernel) (Nat.le_of_ble_eq_true rfl) ?_
  intro p e s m args below meth c ls R Q hRf hRl hRc hRs C hB hl ret thr out
  have hE := hB.1
  have hM : HX D a x e0 A σ s.heap s.heap [] := ⟨hB.2, va_S.rf⟩
  have hl : lv_has ls 4 [(0, .ref x), (1, .int p1), (2, .int p2)] := hl
  have hx := C.1.1
  have hb := C.1.2.1
  have hts := C.1.2.2.2.2
  have hown := C.1.2.2.2.1
  have hf : (f_X10_told σ x p1 p2) = (f_X10_told σ x p1 p2) := rfl
  refine lv_aload_n hx hb dX10_told_0 rfl (lv_at hl 0 rfl) ?_
  refine lv_iload_n hx hb dX10_told_1 rfl (lv_at hl 1 rfl) ?_
  have ok_1 := And.left hok
  have hok := And.right hok
  refine cc_TV (av := [.int p1]) (b := x) C hE hM (k_X10_existingFireball l D a x e0 A hfl σ p1 ok_1) cw_X10_199 (okR_of hRf hRl (Nat.le_of_ble_eq_true rfl) (Nat.le_of_ble_eq_true rfl)) (xr_net C hM) rfl rfl hl.1 (Nat.le_of_ble_eq_true rfl) (by rw [hRc]; exact Nat.le_of_ble_eq_true rfl) (by rw [hRs]; exact Nat.le_of_ble_eq_true rfl) dX10_told_2 (fun k9 E9 ce9 q9 H9 hF9 z1 z2 z3 z4 z5 z6 => out z1 z2 z3 z4 z5 z6 (Nat.le_of_ble_eq_true rfl) (Nat.le_of_ble_eq_true rfl) (hf.trans (exb_er hF9))) (fun v9_2 hv9_2 => ?_)
  have hf := hf.trans (exb_ok hv9_2)
  have hok := exo_ok hok hv9_2
  refine lv_astore_n (lv' := [(3, .ref v9_2), (0, .ref x), (1, .int p1), (2, .int p2)]) hx hb dX10_told_5 rfl hl (by decide) rfl (fun ls hl => ?_)
  refine lv_iload_n hx hb dX10_told_6 rfl (lv_at hl 3 rfl) ?_
  refine lv_iconst (v := 0) hx hb dX10_told_7 (by decide) ?_
  refine lv_bipush (v := 7) hx hb dX10_told_8 (by decide) ?_
  refine cc_TS (av := [.int p2, .int 0, .int 7]) C (k_X10_requireRange l D a e0 A hfl p2 0 7) cw_X10_81 (okR_of hRf hRl (Nat.le_of_ble_eq_true rfl) (Nat.le_of_ble_eq_true rfl)) (fun U g mk z q => be_blind g mk z q) (fun U hU hW => EV.at hE va_S.rf hW hU) rfl rfl hl.1 (Nat.le_of_ble_eq_true rfl) (by rw [hRc]; exact Nat.le_of_ble_eq_true rfl) (by rw [hRs]; exact Nat.le_of_ble_eq_true rfl) dX10_told_10 (fun k9 E9 ce9 q9 H9 hF9 z1 z2 z3 z4 z5 z6 => out z1 z2 z3 z4 z5 z6 (Nat.le_of_ble_eq_true rfl) (Nat.le_of_ble_eq_true rfl) (hf.trans (exb_er hF9))) (fun v9_3 hv9_3 => ?_)
  have hf := hf.trans (exb_ok hv9_3)
  have hok := exo_ok hok hv9_3
  refine lv_aload_n hx hb dX10_told_13 rfl (lv_at hl 0 rfl) ?_
  refine lv_iload_n hx hb dX10_told_14 rfl (lv_at hl 3 rfl) ?_
  have ok_4 := And.left hok
  have hok := And.right hok
  have hk_5 := And.left hok
  have hok := And.right hok
  refine cc_X (av := [.int p2]) (b := v9_2) C hE hM (k_X4_number l D a x e0 A σ v9_2 p2 ok_4) cw_X10_203 (okR_of hRf hRl (Nat.le_of_ble_eq_true rfl) (Nat.le_of_ble_eq_true rfl)) (xr_at (K := 5) C hM hk_5 (by decide) rfl) rfl rfl hl.1 (Nat.le_of_ble_eq_true rfl) (by rw [hRc]; exact Nat.le_of_ble_eq_true rfl) (by rw [hRs]; exact Nat.le_of_ble_eq_true rfl) dX10_told_15 ?_
  exact ret _ _ _ dX10_told_18 hf
def f_X10_stream (σ : XS) (x : Nat) (p1 : Int32) (p2 : Int32) : Except Nat (Int32) := (exb (f_X10_existingFireball σ x p1) (fun v9_2 => (exb (f_X10_existingFireball σ x p2) (fun v9_4 => (if (f_X4_isAsFastAs σ v9_2 v9_4) = 0 then .ok 0 else (if (f_X4_fliesLike σ v9_2 v9_4) = 0 then .ok 0 else .ok 1))))))
def of_X10_stream (σ : XS) (x : Nat) (p1 : Int32) (p2 : Int32) : Prop := (of_X10_existingFireball σ x p1 ∧ (exo (f_X10_existingFireball σ x p1) (fun v9_2 => (of_X10_existingFireball σ x p2 ∧ (exo (f_X10_existingFireball σ x p2) (fun v9_4 => (of_X4_isAsFastAs σ v9_2 v9_4 ∧ ((xk σ v9_2) = 5 ∧ (oif ((f_X4_isAsFastAs σ v9_2 v9_4) = 0) True (of_X4_fliesLike σ v9_2 v9_4 ∧ True))))))))))
def b_X10_flux_25 (x : Nat) (p1 : Int32) (p2 : Int32) (p3 : Int32) (σ : XS) (w4_25 : Int32) (w5_25 : Int32) : Bool × (Int32 × Int32) := (if (nI (xn σ 0)) ≤ w5_25 then (false, (w4_25, w5_25)) else (true, ((w4_25 + (((p2 - p1) + 1) - (f_X10_cloudyNights σ x (xe σ 0 (ix w5_25)) p1 p2))), (w5_25 + 1))))
def ob_X10_flux_25 (x : Nat) (p1 : Int32) (p2 : Int32) (p3 : Int32) (σ : XS) (w4_25 : Int32) (w5_25 : Int32) : Prop := (oif ((nI (xn σ 0)) ≤ w5_25) True (vp_in w5_25 (xn σ 0) ∧ ((xk σ (xe σ 0 (ix w5_25))) = 1 ∧ (of_X10_cloudyNights σ x (xe σ 0 (ix w5_25)) p1 p2 ∧ True))))
def s_X10_flux_25 (x : Nat) (p1 : Int32) (p2 : Int32) (p3 : Int32) (σ : XS) (v : Int32 × Int32) : Bool × (Int32 × Int32) := b_X10_flux_25 x p1 p2 p3 σ v.1 v.2
def os_X10_flux_25 (x : Nat) (p1 : Int32) (p2 : Int32) (p3 : Int32) (σ : XS) (v : Int32 × Int32) : Prop := ob_X10_flux_25 x p1 p2 p3 σ v.1 v.2
def f_X10_flux_76 (σ : XS) (x : Nat) (p1 : Int32) (p2 : Int32) (p3 : Int32) (v4_76 : Int32) : Except Nat (Int32) := (if 0 < v4_76 then .ok (((f_X10_countFireballs σ x p1 p2 p3) * 1000) / v4_76) else .ok 0)
def of_X10_flux_76 (σ : XS) (x : Nat) (p1 : Int32) (p2 : Int32) (p3 : Int32) (v4_76 : Int32) : Prop := (oif (0 < v4_76) (of_X10_countFireballs σ x p1 p2 p3 ∧ (¬ v4_76 = 0 ∧ True)) True)
def f_X10_flux_25 (σ : XS) (x : Nat) (p1 : Int32) (p2 : Int32) (p3 : Int32) (v4_25 : Int32) (v5_25 : Int32) : Except Nat (Int32) := (f_X10_flux_76 σ x p1 p2 p3 ((itr (s_X10_flux_25 x p1 p2 p3 σ) FU (v4_25, v5_25)).1))
def of_X10_flux_25 (σ : XS) (x : Nat) (p1 : Int32) (p2 : Int32) (p3 : Int32) (v4_25 : Int32) (v5_25 : Int32) : Prop := (ito (s_X10_flux_25 x p1 p2 p3 σ) (os_X10_flux_25 x p1 p2 p3 σ) FU (v4_25, v5_25) ∧ (of_X10_flux_76 σ x p1 p2 p3 ((itr (s_X10_flux_25 x p1 p2 p3 σ) FU (v4_25, v5_25)).1)))
def f_X10_flux (σ : XS) (x : Nat) (p1 : Int32) (p2 : Int32) (p3 : Int32) : Except Nat (Int32) := (exb (f_X10_requireNight p1) (fun v9_1 => (exb (f_X10_requireRange p2 p1 3649) (fun v9_2 => (exb (f_X10_requireRange p3 0 100000) (fun v9_3 => (f_X10_flux_25 σ x p1 p2 p3 0 0)))))))
def of_X10_flux (σ : XS) (x : Nat) (p1 : Int32) (p2 : Int32) (p3 : Int32) : Prop := (exo (f_X10_requireNight p1) (fun v9_1 => (exo (f_X10_requireRange p2 p1 3649) (fun v9_2 => (exo (f_X10_requireRange p3 0 100000) (fun v9_3 => (of_X10_flux_25 σ x p1 p2 p3 0 0)))))))
def b_X10_windOf_2 (x : Nat) (p1 : Int32) (σ : XS) (w2_2 : Int32) : Bool × (Int32 × (Option (Nat))) := (if (nI (xn σ 4)) ≤ w2_2 then (false, (w2_2, some 0)) else (if (xi σ 200 (xe σ 4 (ix w2_2))) = p1 then (false, (w2_2, none)) else (true, ((w2_2 + 1), none))))
def ob_X10_windOf_2 (x : Nat) (p1 : Int32) (σ : XS) (w2_2 : Int32) : Prop := (oif ((nI (xn σ 4)) ≤ w2_2) True (vp_in w2_2 (xn σ 4) ∧ ((xk σ (xe σ 4 (ix w2_2))) = 10 ∧ True)))
def s_X10_windOf_2 (x : Nat) (p1 : Int32) (σ : XS) (v : Int32 × (Option (Nat))) : Bool × (Int32 × (Option (Nat))) := b_X10_windOf_2 x p1 σ v.1
def os_X10_windOf_2 (x : Nat) (p1 : Int32) (σ : XS) (v : Int32 × (Option (Nat))) : Prop := ob_X10_windOf_2 x p1 σ v.1
def f_X10_windOf_35 (σ : XS) (x : Nat) (p1 : Int32) (v2_35 : Int32) : Nat := (xe σ 4 (ix v2_35))
def of_X10_windOf_35 (σ : XS) (x : Nat) (p1 : Int32) (v2_35 : Int32) : Prop := (vp_in v2_35 (xn σ 4) ∧ ((xk σ (xe σ 4 (ix v2_35))) = 10 ∧ ((xk σ (xe σ 4 (ix v2_35))) = 10 ∧ True)))
def f_X10_windOf_2 (σ : XS) (x : Nat) (p1 : Int32) (v2_2 : Int32) : Nat := (lret (itr (s_X10_windOf_2 x p1 σ) FU (v2_2, none)).2 (f_X10_windOf_35 σ x p1 ((itr (s_X10_windOf_2 x p1 σ) FU (v2_2, none)).1)))
def of_X10_windOf_2 (σ : XS) (x : Nat) (p1 : Int32) (v2_2 : Int32) : Prop := (ito (s_X10_windOf_2 x p1 σ) (os_X10_windOf_2 x p1 σ) FU (v2_2, none) ∧ (lreto (itr (s_X10_windOf_2 x p1 σ) FU (v2_2, none)).2 (of_X10_windOf_35 σ x p1 ((itr (s_X10_windOf_2 x p1 σ) FU (v2_2, none)).1))))
def f_X10_windOf (σ : XS) (x : Nat) (p1 : Int32) : Nat := (f_X10_windOf_2 σ x p1 0)
def of_X10_windOf (σ : XS) (x : Nat) (p1 : Int32) : Prop := (of_X10_windOf_2 σ x p1 0)
set_option maxHeartbeats 4000000 in
set_option maxRecDepth 100000 in
theorem k_X10_windOf (l : Launch) (D : va_G) (a : Nat → ClassId) (x : Nat) (e0 : Nat) (A : Nat → Prop) (σ : XS) (p1 : Int32) (hok : of_X10_windOf σ x p1) : K0 l yX10_windOf cX10_windOf 3 ((some (.object "FireNet$Wind"))) 3 64 [.ref x, .int p1] (BX D a x e0 A σ) (rv (f_X10_windOf σ x p1)) := by
  refine go0n (D := D) (a := a) (by decide +kernel) (fun _ h => h.1.1) (Nat.le_of_ble_eq_true rfl) ?_
  intro p e s m args below meth c ls R Q hRf hRl C hl hB
  obtain ⟨hB, ret⟩ := hB
  have hE := hB.1
  have hM : HX D a x e0 A σ s.heap s.heap [] := ⟨hB.2, va_S.rf⟩
  have hl : lv_has ls 3 [(0, .ref x), (1, .int p1)] := hl
  have hx := C.1.1
  have hb := C.1.2.1
  have hts := C.1.2.2.2.2
  have hown := C.1.2.2.2.1
  have hf : (f_X10_windOf σ x p1) = (f_X10_windOf σ x p1) := rfl
  have J_35 : ∀ (v2_35 : Int32), (f_X10_windOf σ x p1) = f_X10_windOf_35 σ x p1 v2_35 → of_X10_windOf_35 σ x p1 v2_35 → ∀ (ls : Array Slot), lv_has ls 3 [(0, .ref x), (2, .int v2_35)] → W p l e R s m args below meth c s.heap [] 0 0 Q (F0 m 35 ls []) := by
    intro v2_35 hf hok ls hl
    refine lv_aload_n hx hb dX10_windOf_35 rfl (lv_at hl 0 rfl) ?_
    refine xt_winds C hM dX10_windOf_36 ?_
    refine lv_iload_n hx hb dX10_windOf_39 rfl (lv_at hl 1 rfl) ?_
    have ok_5 := And.left hok
    have hok := And.right hok
    refine xl_get (j := 4) C hE hM (by decide) ok_5 hRf hRl (Nat.le_of_ble_eq_true rfl) (Nat.le_of_ble_eq_true rfl) hl.1 (Nat.le_of_ble_eq_true rfl) (Nat.zero_le _) (Nat.zero_le _) dX10_windOf_40 ?_
    have hk_6 := And.left hok
    have hok := And.right hok
    refine xcast (K := 10) C (xat_10 hM hk_6) rfl q_631 dX10_windOf_45 ?_
    have hk_7 := And.left hok
    have hok := And.right hok
    refine fromRef (xne0 hM.1 hk_7 (by decide)) ?_
    exact ret _ _ _ dX10_windOf_48 hf
  have J_2 : ∀ (v2_2 : Int32), (f_X10_windOf σ x p1) = f_X10_windOf_2 σ x p1 v2_2 → of_X10_windOf_2 σ x p1 v2_2 → ∀ (ls : Array Slot), lv_has ls 3 [(0, .ref x), (1, .int p1), (2, .int v2_2)] → W p l e R s m args below meth c s.heap [] 0 0 Q (F0 m 2 ls []) := by
    intro v2_2 hf hok ls hl
    refine itr_W (f := (s_X10_windOf_2 x p1 σ)) (o := (os_X10_windOf_2 x p1 σ)) (fun (v : Int32 × (Option (Nat))) => ∀ (ls : Array Slot), lv_has ls 3 [(0, .ref x), (1, .int p1), (2, .int v.1)] → W p l e R s m args below meth c s.heap [] 0 0 Q (F0 m 2 ls [])) (fun (v : Int32 × (Option (Nat))) => (∀ r9, v.2 = some r9 → (f_X10_windOf σ x p1) = r9) ∧ (v.2 = none → ∀ (ls : Array Slot), lv_has ls 3 [(0, .ref x), (2, .int v.1)] → W p l e R s m args below meth c s.heap [] 0 0 Q (F0 m 35 ls []))) ?_ FU (v2_2, none) (And.left hok) ?_ ls (lv_sub hl [0, 1, 2] rfl)
    · intro v hov kc ke
      obtain ⟨w2_2, rr9⟩ := v
      have hok : ob_X10_windOf_2 x p1 σ w2_2 := hov
      change ∀ v', (b_X10_windOf_2 x p1 σ w2_2) = (true, v') → _ at kc
      change ∀ v', (b_X10_windOf_2 x p1 σ w2_2) = (false, v') → _ at ke
      have hf : (b_X10_windOf_2 x p1 σ w2_2) = (b_X10_windOf_2 x p1 σ w2_2) := rfl
      intro ls hl
      refine lv_iload_n hx hb dX10_windOf_2 rfl (lv_at hl 2 rfl) ?_
      refine lv_aload_n hx hb dX10_windOf_3 rfl (lv_at hl 0 rfl) ?_
      refine xt_winds C hM dX10_windOf_4 ?_
      refine xl_size (j := 4) C hE hM (by decide) hRf hRl (Nat.le_of_ble_eq_true rfl) (Nat.le_of_ble_eq_true rfl) hl.1 (Nat.le_of_ble_eq_true rfl) (Nat.zero_le _) (Nat.zero_le _) dX10_windOf_7 ?_
      refine lv_icmp_ge (tgt := 55) hx hb dX10_windOf_12 (by decide) (fun c_1 => ?_) (fun c_1 => ?_)
      · have hf := hf.trans (if_pos c_1)
        have hok := oif_pos hok c_1
        refine lx_null hx hb dX10_windOf_55 ?_
        have hf := (ke (w2_2, some 0) hf).1 _ rfl
        exact ret _ _ _ dX10_windOf_56 hf
      · have hf := hf.trans (if_neg c_1)
        have hok := oif_neg hok c_1
        refine lv_aload_n hx hb dX10_windOf_15 rfl (lv_at hl 0 rfl) ?_
        refine xt_winds C hM dX10_windOf_16 ?_
        refine lv_iload_n hx hb dX10_windOf_19 rfl (lv_at hl 2 rfl) ?_
        have ok_2 := And.left hok
        have hok := And.right hok
        refine xl_get (j := 4) C hE hM (by decide) ok_2 hRf hRl (Nat.le_of_ble_eq_true rfl) (Nat.le_of_ble_eq_true rfl) hl.1 (Nat.le_of_ble_eq_true rfl) (Nat.zero_le _) (Nat.zero_le _) dX10_windOf_20 ?_
        have hk_3 := And.left hok
        have hok := And.right hok
        refine xcast (K := 10) C (xat_10 hM hk_3) rfl q_631 dX10_windOf_25 ?_
        refine xg_X10_423 C hM hk_3 dX10_windOf_28 ?_
        refine lv_iload_n hx hb dX10_windOf_31 rfl (lv_at hl 1 rfl) ?_
        refine lv_icmp_ne (tgt := 49) hx hb dX10_windOf_32 (by decide) (fun c_4 => ?_) (fun c_4 => ?_)
        · have hf := hf.trans (if_neg c_4)
          refine lv_iinc (v := (w2_2 + 1)) (lv' := [(2, .int (w2_2 + 1)), (0, .ref x), (1, .int p1)]) hx hb dX10_windOf_49 hl (k := 2) rfl rfl (by decide) rfl (fun ls hl => ?_)
          refine lv_goto (tgt := 2) hx hb dX10_windOf_52 (by decide) ?_
          exact kc ((w2_2 + 1), none) hf ls (lv_sub hl [1, 2, 0] rfl)
        · have hf := hf.trans (if_pos c_4)
          exact (ke (w2_2, none) hf).2 rfl ls (lv_sub hl [0, 2] rfl)
    · refine ⟨fun r9 e9 => hf.trans (lret_s e9), fun e9 => ?_⟩
      have hf := hf.trans (lret_n e9)
      have hok := lreto_n (And.right hok) e9
      intro ls hl
      exact J_35 ((itr (s_X10_windOf_2 x p1 σ) FU (v2_2, none)).1) hf hok ls (lv_sub hl [0, 1] rfl)
  refine lv_iconst (v := 0) hx hb dX10_windOf_0 (by decide) ?_
  refine lv_istore_n (lv' := [(2, .int 0), (0, .ref x), (1, .int p1)]) hx hb dX10_windOf_1 rfl hl (by decide) rfl (fun ls hl => ?_)
  exact J_2 0 hf hok ls (lv_sub hl [1, 2, 0] rfl)
def f_X10_wind_78 (σ : XS) (x : Nat) (nq : Nat) (p1 : Int32) (p2 : Int32) (p3 : Int32) (v4_78 : Nat) (σ_78 : XS) : Except Nat (Unit × XS) := .ok ((), (xI (xI σ_78 201 v4_78 p2) 202 v4_78 p3))
def of_X10_wind_78 (σ : XS) (x : Nat) (nq : Nat) (p1 : Int32) (p2 : Int32) (p3 : Int32) (v4_78 : Nat) (σ_78 : XS) : Prop := ((xk σ_78 v4_78) = 10 ∧ True)
def f_X10_wind_64 (σ : XS) (x : Nat) (nq : Nat) (p1 : Int32) (p2 : Int32) (p3 : Int32) (t0_64 : Nat) (σ_64 : XS) : Except Nat (Unit × XS) := (f_X10_wind_78 σ x nq p1 p2 p3 t0_64 (xAdd σ_64 4 t0_64))
def of_X10_wind_64 (σ : XS) (x : Nat) (nq : Nat) (p1 : Int32) (p2 : Int32) (p3 : Int32) (t0_64 : Nat) (σ_64 : XS) : Prop := ((xk σ_64 t0_64) = 10 ∧ ((xn σ_64 4) ≤ 100 ∧ ((∀ i, i < (xn σ_64 4) → (xk σ_64 (xe σ_64 4 i)) = 10) ∧ (of_X10_wind_78 σ x nq p1 p2 p3 t0_64 (xAdd σ_64 4 t0_64)))))
def f_X10_wind (σ : XS) (x : Nat) (nq : Nat) (p1 : Int32) (p2 : Int32) (p3 : Int32) : Except Nat (Unit × XS) := (exb (f_X10_requireNight p1) (fun v9_1 => (exb (f_X10_requireRange p2 (-20) 20) (fun v9_2 => (exb (f_X10_requireRange p3 (-20) 20) (fun v9_3 => (if (f_X10_windOf σ x p1) = 0 then (if (nI (xn σ 4)) < 50 then (f_X10_wind_64 σ x nq p1 p2 p3 nq ((f_X9_init (xNew σ 10 nq) nq p1).2)) else .error 2) else (f_X10_wind_78 σ x nq p1 p2 p3 (f_X10_windOf σ x p1) σ))))))))
def of_X10_wind (σ : XS) (x : Nat) (nq : Nat) (p1 : Int32) (p2 : Int32) (p3 : Int32) : Prop := (exo (f_X10_requireNight p1) (fun v9_1 => (exo (f_X10_requireRange p2 (-20) 20) (fun v9_2 => (exo (f_X10_requireRange p3 (-20) 20) (fun v9_3 => (of_X10_windOf σ x p1 ∧ (oif ((f_X10_windOf σ x p1) = 0) (oif ((nI (xn σ 4)) < 50) (of_X9_init (xNew σ 10 nq) nq p1 ∧ (of_X10_wind_64 σ x nq p1 p2 p3 nq ((f_X9_init (xNew σ 10 nq) nq p1).2))) True) (of_X10_wind_78 σ x nq p1 p2 p3 (f_X10_windOf σ x p1) σ)))))))))
set_option maxHeartbeats 4000000 in
set_option maxRecDepth 100000 in
theorem k_X10_wind (l : Launch) (D : va_G) (a : Nat → ClassId) (x : Nat) (e0 : Nat) (A : Nat → Prop) (hfl : l.stackTraces = false) (σ : XS) (p1 : Int32) (p2 : Int32) (p3 : Int32) (hok : ∀ nq, xk σ nq = 0 → of_X10_wind σ x nq p1 p2 p3) : KTm l D a x e0 A yX10_wind cX10_wind 5 none 8 156 5 321 [.ref x, .int p1, .int p2, .int p3] σ (fun _ => none) (fun nq => f_X10_wind σ x nq p1 p2 p3) := by
  refine goUv hfl rfl (by decide +kernel) (Nat.le_of_ble_eq_true rfl) ?_
  intro p e s m args below meth c ls R Q nq hRf hRl hRc hRs hnq C hE hM hl ret thr out
  have hok := hok nq (by rw [hnq]; exact xP_fresh hM.1)
  have hl : lv_has ls 5 [(0, .ref x), (1, .int p1), (2, .int p2), (3, .int p3)] := hl
  have hx := C.1.1
  have hb := C.1.2.1
  have hts := C.1.2.2.2.2
  have hown := C.1.2.2.2.1
  have hf : (f_X10_wind σ x nq p1 p2 p3) = (f_X10_wind σ x nq p1 p2 p3) := rfl
  have J_78 : ∀ (v4_78 : Nat) (σ_78 : XS), (f_X10_wind σ x nq p1 p2 p3) = f_X10_wind_78 σ x nq p1 p2 p3 v4_78 σ_78 → of_X10_wind_78 σ x nq p1 p2 p3 v4_78 σ_78 → ∀ (H : Heap) (locs : List Loc) (ls : Array Slot), HX D a x e0 A σ_78 s.heap H locs → lv_has ls 5 [(2, .int p2), (3, .int p3), (4, rv v4_78)] → W p l e R s m args below meth c H locs 5 321 Q (F0 m 78 ls []) := by
    intro v4_78 σ_78 hf hok H locs ls hM hl
    refine lx_aload hx hb dX10_wind_78 (lv_at hl 2 rfl) ?_
    have hk_6 := And.left hok
    have hok := And.right hok
    refine toRef (xne0 hM.1 hk_6 (by decide)) ?_
    refine lv_iload_n hx hb dX10_wind_80 rfl (lv_at hl 0 rfl) ?_
    refine xp_X10_225 C hM hk_6 dX10_wind_81 (fun H locs hM => ?_)
    refine lx_aload hx hb dX10_wind_84 (lv_at hl 2 rfl) ?_
    refine toRef (xne0 hM.1 hk_6 (by decide)) ?_
    refine lv_iload_n hx hb dX10_wind_86 rfl (lv_at hl 1 rfl) ?_
    refine xp_X10_228 C hM hk_6 dX10_wind_87 (fun H locs hM => ?_)
    exact ret _ _ _ _ _ hM dX10_wind_90 hf
  have J_64 : ∀ (t0_64 : Nat) (σ_64 : XS), (f_X10_wind σ x nq p1 p2 p3) = f_X10_wind_64 σ x nq p1 p2 p3 t0_64 σ_64 → of_X10_wind_64 σ x nq p1 p2 p3 t0_64 σ_64 → ∀ (H : Heap) (locs : List Loc) (ls : Array Slot), HX D a x e0 A σ_64 s.heap H locs → lv_has ls 5 [(0, .ref x), (2, .int p2), (3, .int p3)] → W p l e R s m args below meth c H locs 4 21 Q (F0 m 64 ls [.ref t0_64]) := by
    intro t0_64 σ_64 hf hok H locs ls hM hl
    have hk_10 := And.left hok
    have hok := And.right hok
    refine fromRef (xne0 hM.1 hk_10 (by decide)) ?_
    refine lx_astore (lv' := [(4, rv t0_64), (0, .ref x), (2, .int p2), (3, .int p3)]) hx hb dX10_wind_64 hl (by decide) rfl (fun ls hl => ?_)
    refine lv_aload_n hx hb dX10_wind_66 rfl (lv_at hl 1 rfl) ?_
    refine xt_winds C hM dX10_wind_67 ?_
    refine lx_aload hx hb dX10_wind_70 (lv_at hl 0 rfl) ?_
    refine toRef (xne0 hM.1 hk_10 (by decide)) ?_
    have ok_11 := And.left hok
    have hok := And.right hok
    have ok_12 := And.left hok
    have hok := And.right hok
    refine xl_add (j := 4) (K := 10) C hE hM (by decide) hk_10 (by decide) rfl cb_10 ok_11 ok_12 hRf hRl (Nat.le_of_ble_eq_true rfl) (Nat.le_of_ble_eq_true rfl) hl.1 (Nat.le_of_ble_eq_true rfl) (by rw [hRc]; exact Nat.le_of_ble_eq_true rfl) (by rw [hRs]; exact Nat.le_of_ble_eq_true rfl) dX10_wind_72 (fun H locs hM => ?_)
    refine lv_pop hx hb dX10_wind_77 rfl ?_
    exact J_78 t0_64 (xAdd σ_64 4 t0_64) hf hok _ _ ls hM (lv_sub hl [2, 3, 0] rfl)
  refine lv_iload_n hx hb dX10_wind_0 rfl (lv_at hl 1 rfl) ?_
  refine cc_TS (av := [.int p1]) C (k_X10_requireNight l D a e0 A hfl p1) cw_X10_111 (okR_of hRf hRl (Nat.le_of_ble_eq_true rfl) (Nat.le_of_ble_eq_true rfl)) (fun U g mk z q => be_blind g mk z q) (fun U hU hW => EV.at hE va_S.rf hW hU) rfl rfl hl.1 (Nat.le_of_ble_eq_true rfl) (by rw [hRc]; exact Nat.le_of_ble_eq_true rfl) (by rw [hRs]; exact Nat.le_of_ble_eq_true rfl) dX10_wind_1 (fun k9 E9 ce9 q9 H9 hF9 z1 z2 z3 z4 z5 z6 => out z1 z2 z3 z4 z5 z6 (Nat.le_of_ble_eq_true rfl) (Nat.le_of_ble_eq_true rfl) (hf.trans (exb_er hF9))) (fun v9_1 hv9_1 => ?_)
  have hf := hf.trans (exb_ok hv9_1)
  have hok := exo_ok hok hv9_1
  refine lv_iload_n hx hb dX10_wind_4 rfl (lv_at hl 2 rfl) ?_
  refine lv_bipush (v := (-20)) hx hb dX10_wind_5 (by decide) ?_
  refine lv_bipush (v := 20) hx hb dX10_wind_7 (by decide) ?_
  refine cc_TS (av := [.int p2, .int (-20), .int 20]) C (k_X10_requireRange l D a e0 A hfl p2 (-20) 20) cw_X10_81 (okR_of hRf hRl (Nat.le_of_ble_eq_true rfl) (Nat.le_of_ble_eq_true rfl)) (fun U g mk z q => be_blind g mk z q) (fun U hU hW => EV.at hE va_S.rf hW hU) rfl rfl hl.1 (Nat.le_of_ble_eq_true rfl) (by rw [hRc]; exact Nat.le_of_ble_eq_true rfl) (by rw [hRs]; exact Nat.le_of_ble_eq_true rfl) dX10_wind_9 (fun k9 E9 ce9 q9 H9 hF9 z1 z2 z3 z4 z5 z6 => out z1 z2 z3 z4 z5 z6 (Nat.le_of_ble_eq_true rfl) (Nat.le_of_ble_eq_true rfl) (hf.trans (exb_er hF9))) (fun v9_2 hv9_2 => ?_)
  have hf := hf.trans (exb_ok hv9_2)
  have hok := exo_ok hok hv9_2
  refine lv_iload_n hx hb dX10_wind_12 rfl (lv_at hl 3 rfl) ?_
  refine lv_bipush (v := (-20)) hx hb dX10_wind_13 (by decide) ?_
  refine lv_bipush (v := 20) hx hb dX10_wind_15 (by decide) ?_
  refine cc_TS (av := [.int p3, .int (-20), .int 20]) C (k_X10_requireRange l D a e0 A hfl p3 (-20) 20) cw_X10_81 (okR_of hRf hRl (Nat.le_of_ble_eq_true rfl) (Nat.le_of_ble_eq_true rfl)) (fun U g mk z q => be_blind g mk z q) (fun U hU hW => EV.at hE va_S.rf hW hU) rfl rfl hl.1 (Nat.le_of_ble_eq_true rfl) (by rw [hRc]; exact Nat.le_of_ble_eq_true rfl) (by rw [hRs]; exact Nat.le_of_ble_eq_true rfl) dX10_wind_17 (fun k9 E9 ce9 q9 H9 hF9 z1 z2 z3 z4 z5 z6 => out z1 z2 z3 z4 z5 z6 (Nat.le_of_ble_eq_true rfl) (Nat.le_of_ble_eq_true rfl) (hf.trans (exb_er hF9))) (fun v9_3 hv9_3 => ?_)
  have hf := hf.trans (exb_ok hv9_3)
  have hok := exo_ok hok hv9_3
  refine lv_aload_n hx hb dX10_wind_20 rfl (lv_at hl 0 rfl) ?_
  refine lv_iload_n hx hb dX10_wind_21 rfl (lv_at hl 1 rfl) ?_
  have ok_4 := And.left hok
  have hok := And.right hok
  refine cc_X (av := [.int p1]) (b := x) C hE hM (k_X10_windOf l D a x e0 A σ p1 ok_4) cw_X10_215 (okR_of hRf hRl (Nat.le_of_ble_eq_true rfl) (Nat.le_of_ble_eq_true rfl)) (xr_net C hM) rfl rfl hl.1 (Nat.le_of_ble_eq_true rfl) (by rw [hRc]; exact Nat.le_of_ble_eq_true rfl) (by rw [hRs]; exact Nat.le_of_ble_eq_true rfl) dX10_wind_22 ?_
  refine lx_astore (lv' := [(4, rv (f_X10_windOf σ x p1)), (0, .ref x), (1, .int p1), (2, .int p2), (3, .int p3)]) hx hb dX10_wind_25 hl (by decide) rfl (fun ls hl => ?_)
  refine lx_aload hx hb dX10_wind_27 (lv_at hl 0 rfl) ?_
  refine lx_ifnonnull (tgt := 78) hx hb dX10_wind_29 (by decide) (fun c_5 => ?_) (fun c_5 => ?_)
  · have hf := hf.trans (if_neg c_5)
    have hok := oif_neg hok c_5
    refine W.widen (k := 5) (n := 321) (Nat.le_of_ble_eq_true rfl) (Nat.le_of_ble_eq_true rfl) ?_
    exact J_78 (f_X10_windOf σ x p1) σ hf hok _ _ ls hM (lv_sub hl [3, 4, 0] rfl)
  · have hf := hf.trans (if_pos c_5)
    have hok := oif_pos hok c_5
    refine lv_aload_n hx hb dX10_wind_32 rfl (lv_at hl 1 rfl) ?_
    refine xt_winds C hM dX10_wind_33 ?_
    refine xl_size (j := 4) C hE hM (by decide) hRf hRl (Nat.le_of_ble_eq_true rfl) (Nat.le_of_ble_eq_true rfl) hl.1 (Nat.le_of_ble_eq_true rfl) (by rw [hRc]; exact Nat.le_of_ble_eq_true rfl) (by rw [hRs]; exact Nat.le_of_ble_eq_true rfl) dX10_wind_36 ?_
    refine lv_bipush (v := 50) hx hb dX10_wind_41 (by decide) ?_
    refine lv_icmp_lt (tgt := 56) hx hb dX10_wind_43 (by decide) (fun c_7 => ?_) (fun c_7 => ?_)
    · have hf := hf.trans (if_pos c_7)
      have hok := oif_pos hok c_7
      refine xnew_X10_221 C hE hM hnq (xP_pos hM.1) (by rw [hRc]; exact Nat.le_of_ble_eq_true rfl) (by rw [hRs]; exact Nat.le_of_ble_eq_true rfl) dX10_wind_56 (fun H locs hM => ?_)
      have hk_8 : (xk (xNew σ 10 nq) nq) = 10 := va_up_self _ _ _
      refine lv_dup hx hb dX10_wind_59 rfl ?_
      refine lv_iload_n hx hb dX10_wind_60 rfl (lv_at hl 2 rfl) ?_
      have ok_9 := And.left hok
      have hok := And.right hok
      refine cc_XI (av := [.int p1]) (b := nq) (N := 0) (Or.inr (fun _ => rfl)) C hE hM (k_X9_init l D a x e0 A (xNew σ 10 nq) nq p1 ok_9) cw_X10_223 (okR_of hRf hRl (Nat.le_of_ble_eq_true rfl) (Nat.le_of_ble_eq_true rfl)) rfl rfl hl.1 (Nat.le_of_ble_eq_true rfl) (by rw [hRc]; exact Nat.le_of_ble_eq_true rfl) (by rw [hRs]; exact Nat.le_of_ble_eq_true rfl) dX10_wind_61 (fun H locs hM => ?_)
      exact J_64 nq ((f_X9_init (xNew σ 10 nq) nq p1).2) hf hok _ _ ls hM (lv_sub hl [1, 3, 4] rfl)
    · have hf := hf.trans (if_neg c_7)
      have hok := oif_neg hok c_7
      obtain ⟨sa, hsr⟩ := hE.2.2.1 _ str_219
      exact thr (k := 2) thr_89 hsr (hl.1.trans C.1.2.2.1.symm) dX10_wind_46 dX10_wind_49 (Or.inl ⟨dX10_wind_50, dX10_wind_52, dX10_wind_55⟩) (by rw [hRf]; exact Nat.le_of_ble_eq_true rfl) (by rw [hRl]; exact Nat.le_of_ble_eq_true rfl) (Nat.le_of_ble_eq_true rfl) (Nat.le_of_ble_eq_true rfl) hf
def b_X10_wasWalked_3 (x : Nat) (p1 : Int32) (p2 : Int32) (p3 : Int32) (σ : XS) (w4_3 : Int32) : Bool × (Int32 × (Option (Int32))) := (if (nI (xn σ 5)) ≤ w4_3 then (false, (w4_3, none)) else (if (f_X8_isThrough σ (xe σ 5 (ix w4_3)) p1 p2 p3) = 0 then (true, ((w4_3 + 1), none)) else (false, (w4_3, some 1))))
def ob_X10_wasWalked_3 (x : Nat) (p1 : Int32) (p2 : Int32) (p3 : Int32) (σ : XS) (w4_3 : Int32) : Prop := (oif ((nI (xn σ 5)) ≤ w4_3) True (vp_in w4_3 (xn σ 5) ∧ ((xk σ (xe σ 5 (ix w4_3))) = 9 ∧ (of_X8_isThrough σ (xe σ 5 (ix w4_3)) p1 p2 p3 ∧ True))))
def s_X10_wasWalked_3 (x : Nat) (p1 : Int32) (p2 : Int32) (p3 : Int32) (σ : XS) (v : Int32 × (Option (Int32))) : Bool × (Int32 × (Option (Int32))) := b_X10_wasWalked_3 x p1 p2 p3 σ v.1
def os_X10_wasWalked_3 (x : Nat) (p1 : Int32) (p2 : Int32) (p3 : Int32) (σ : XS) (v : Int32 × (Option (Int32))) : Prop := ob_X10_wasWalked_3 x p1 p2 p3 σ v.1
def f_X10_wasWalked_48 (σ : XS) (x : Nat) (p1 : Int32) (p2 : Int32) (p3 : Int32) : Int32 := 0
def f_X10_wasWalked_3 (σ : XS) (x : Nat) (p1 : Int32) (p2 : Int32) (p3 : Int32) (v4_3 : Int32) : Int32 := (lret (itr (s_X10_wasWalked_3 x p1 p2 p3 σ) FU (v4_3, none)).2 (f_X10_wasWalked_48 σ x p1 p2 p3))
def of_X10_wasWalked_3 (σ : XS) (x : Nat) (p1 : Int32) (p2 : Int32) (p3 : Int32) (v4_3 : Int32) : Prop := (ito (s_X10_wasWalked_3 x p1 p2 p3 σ) (os_X10_wasWalked_3 x p1 p2 p3 σ) FU (v4_3, none) ∧ (lreto (itr (s_X10_wasWalked_3 x p1 p2 p3 σ) FU (v4_3, none)).2 True))
def f_X10_wasWalked (σ : XS) (x : Nat) (p1 : Int32) (p2 : Int32) (p3 : Int32) : Int32 := (f_X10_wasWalked_3 σ x p1 p2 p3 0)
def of_X10_wasWalked (σ : XS) (x : Nat) (p1 : Int32) (p2 : Int32) (p3 : Int32) : Prop := (of_X10_wasWalked_3 σ x p1 p2 p3 0)
set_option maxHeartbeats 4000000 in
set_option maxRecDepth 100000 in
theorem k_X10_wasWalked (l : Launch) (D : va_G) (a : Nat → ClassId) (x : Nat) (e0 : Nat) (A : Nat → Prop) (σ : XS) (p1 : Int32) (p2 : Int32) (p3 : Int32) (hok : of_X10_wasWalked σ x p1 p2 p3) : K0 l yX10_wasWalked cX10_wasWalked 5 ((some .boolean)) 3 64 [.ref x, .int p1, .int p2, .int p3] (BX D a x e0 A σ) (.int (f_X10_wasWalked σ x p1 p2 p3)) := by
  refine go0z (D := D) (a := a) (by decide +kernel) (fun _ h => h.1.1) (Nat.le_of_ble_eq_true rfl) ?_
  intro p e s m args below meth c ls R Q hRf hRl C hl hB
  obtain ⟨hB, ret⟩ := hB
  have hE := hB.1
  have hM : HX D a x e0 A σ s.heap s.heap [] := ⟨hB.2, va_S.rf⟩
  have hl : lv_has ls 5 [(0, .ref x), (1, .int p1), (2, .int p2), (3, .int p3)] := hl
  have hx := C.1.1
  have hb := C.1.2.1
  have hts := C.1.2.2.2.2
  have hown := C.1.2.2.2.1
  have hf : (f_X10_wasWalked σ x p1 p2 p3) = (f_X10_wasWalked σ x p1 p2 p3) := rfl
  have J_48 : (f_X10_wasWalked σ x p1 p2 p3) = f_X10_wasWalked_48 σ x p1 p2 p3 → ∀ (ls : Array Slot), lv_has ls 5 [] → W p l e R s m args below meth c s.heap [] 0 0 Q (F0 m 48 ls []) := by
    intro hf ls hl
    refine lv_iconst (v := 0) hx hb dX10_wasWalked_48 (by decide) ?_
    exact ret _ _ _ dX10_wasWalked_49 (by unfold zb; decide) hf
  have J_3 : ∀ (v4_3 : Int32), (f_X10_wasWalked σ x p1 p2 p3) = f_X10_wasWalked_3 σ x p1 p2 p3 v4_3 → of_X10_wasWalked_3 σ x p1 p2 p3 v4_3 → ∀ (ls : Array Slot), lv_has ls 5 [(0, .ref x), (1, .int p1), (2, .int p2), (3, .int p3), (4, .int v4_3)] → W p l e R s m args below meth c s.heap [] 0 0 Q (F0 m 3 ls []) := by
    intro v4_3 hf hok ls hl
    refine itr_W (f := (s_X10_wasWalked_3 x p1 p2 p3 σ)) (o := (os_X10_wasWalked_3 x p1 p2 p3 σ)) (fun (v : Int32 × (Option (Int32))) => ∀ (ls : Array Slot), lv_has ls 5 [(0, .ref x), (1, .int p1), (2, .int p2), (3, .int p3), (4, .int v.1)] → W p l e R s m args below meth c s.heap [] 0 0 Q (F0 m 3 ls [])) (fun (v : Int32 × (Option (Int32))) => (∀ r9, v.2 = some r9 → (f_X10_wasWalked σ x p1 p2 p3) = r9) ∧ (v.2 = none → ∀ (ls : Array Slot), lv_has ls 5 [] → W p l e R s m args below meth c s.heap [] 0 0 Q (F0 m 48 ls []))) ?_ FU (v4_3, none) (And.left hok) ?_ ls (lv_sub hl [0, 1, 2, 3, 4] rfl)
    · intro v hov kc ke
      obtain ⟨w4_3, rr9⟩ := v
      have hok : ob_X10_wasWalked_3 x p1 p2 p3 σ w4_3 := hov
      change ∀ v', (b_X10_wasWalked_3 x p1 p2 p3 σ w4_3) = (true, v') → _ at kc
      change ∀ v', (b_X10_wasWalked_3 x p1 p2 p3 σ w4_3) = (false, v') → _ at ke
      have hf : (b_X10_wasWalked_3 x p1 p2 p3 σ w4_3) = (b_X10_wasWalked_3 x p1 p2 p3 σ w4_3) := rfl
      intro ls hl
      refine lv_iload hx hb dX10_wasWalked_3 (lv_at hl 4 rfl) ?_
      refine lv_aload_n hx hb dX10_wasWalked_5 rfl (lv_at hl 0 rfl) ?_
      refine xt_walks C hM dX10_wasWalked_6 ?_
      refine xl_size (j := 5) C hE hM (by decide) hRf hRl (Nat.le_of_ble_eq_true rfl) (Nat.le_of_ble_eq_true rfl) hl.1 (Nat.le_of_ble_eq_true rfl) (Nat.zero_le _) (Nat.zero_le _) dX10_wasWalked_9 ?_
      refine lv_icmp_ge (tgt := 48) hx hb dX10_wasWalked_14 (by decide) (fun c_1 => ?_) (fun c_1 => ?_)
      · have hf := hf.trans (if_pos c_1)
        have hok := oif_pos hok c_1
        exact (ke (w4_3, none) hf).2 rfl ls (lv_sub hl [] rfl)
      · have hf := hf.trans (if_neg c_1)
        have hok := oif_neg hok c_1
        refine lv_aload_n hx hb dX10_wasWalked_17 rfl (lv_at hl 0 rfl) ?_
        refine xt_walks C hM dX10_wasWalked_18 ?_
        refine lv_iload hx hb dX10_wasWalked_21 (lv_at hl 4 rfl) ?_
        have ok_2 := And.left hok
        have hok := And.right hok
        refine xl_get (j := 5) C hE hM (by decide) ok_2 hRf hRl (Nat.le_of_ble_eq_true rfl) (Nat.le_of_ble_eq_true rfl) hl.1 (Nat.le_of_ble_eq_true rfl) (Nat.zero_le _) (Nat.zero_le _) dX10_wasWalked_23 ?_
        have hk_3 := And.left hok
        have hok := And.right hok
        refine xcast (K := 9) C (xat_9 hM hk_3) rfl q_663 dX10_wasWalked_28 ?_
        refine lv_iload_n hx hb dX10_wasWalked_31 rfl (lv_at hl 1 rfl) ?_
        refine lv_iload_n hx hb dX10_wasWalked_32 rfl (lv_at hl 2 rfl) ?_
        refine lv_iload_n hx hb dX10_wasWalked_33 rfl (lv_at hl 3 rfl) ?_
        have ok_4 := And.left hok
        have hok := And.right hok
        refine cc_X (av := [.int p1, .int p2, .int p3]) (b := (xe σ 5 (ix w4_3))) C hE hM (k_X8_isThrough l D a x e0 A σ (xe σ 5 (ix w4_3)) p1 p2 p3 ok_4) cw_X10_424 (okR_of hRf hRl (Nat.le_of_ble_eq_true rfl) (Nat.le_of_ble_eq_true rfl)) (xr_at (K := 9) C hM hk_3 (by decide) rfl) rfl rfl hl.1 (Nat.le_of_ble_eq_true rfl) (Nat.zero_le _) (Nat.zero_le _) dX10_wasWalked_34 ?_
        refine lv_if_eq (tgt := 42) hx hb dX10_wasWalked_37 (by decide) (fun c_5 => ?_) (fun c_5 => ?_)
        · have hf := hf.trans (if_pos c_5)
          refine lv_iinc (v := (w4_3 + 1)) (lv' := [(4, .int (w4_3 + 1)), (0, .ref x), (1, .int p1), (2, .int p2), (3, .int p3)]) hx hb dX10_wasWalked_42 hl (k := 4) rfl rfl (by decide) rfl (fun ls hl => ?_)
          refine lv_goto (tgt := 3) hx hb dX10_wasWalked_45 (by decide) ?_
          exact kc ((w4_3 + 1), none) hf ls (lv_sub hl [1, 2, 3, 4, 0] rfl)
        · have hf := hf.trans (if_neg c_5)
          refine lv_iconst (v := 1) hx hb dX10_wasWalked_40 (by decide) ?_
          have hf := (ke (w4_3, some 1) hf).1 _ rfl
          exact ret _ _ _ dX10_wasWalked_41 (by unfold zb; decide) hf
    · refine ⟨fun r9 e9 => hf.trans (lret_s e9), fun e9 => ?_⟩
      have hf := hf.trans (lret_n e9)
      have hok := lreto_n (And.right hok) e9
      intro ls hl
      exact J_48 hf ls (lv_sub hl [] rfl)
  refine lv_iconst (v := 0) hx hb dX10_wasWalked_0 (by decide) ?_
  refine lv_istore (lv' := [(4, .int 0), (0, .ref x), (1, .int p1), (2, .int p2), (3, .int p3)]) hx hb dX10_wasWalked_1 hl (by decide) rfl (fun ls hl => ?_)
  exact J_3 0 hf hok ls (lv_sub hl [1, 2, 3, 4, 0] rfl)
def f_X10_weightLeft_l6_67 (x : Nat) (p2 : Int32) (p3 : Int32) (p4 : Int32) (σ : XS) (w6_6 : Int64) (w8_6 : Int32) (v6_67 : Int64) (v8_67 : Int32) : Bool × (Int64 × Int32) := (true, (v6_67, (v8_67 + 1)))
def b_X10_weightLeft_6 (x : Nat) (p2 : Int32) (p3 : Int32) (p4 : Int32) (σ : XS) (w6_6 : Int64) (w8_6 : Int32) : Bool × (Int64 × Int32) := (if (nI (xn σ 5)) ≤ w8_6 then (false, (w6_6, w8_6)) else (if (f_X8_isThrough σ (xe σ 5 (ix w8_6)) p2 p3 p4) = 0 then (f_X10_weightLeft_l6_67 x p2 p3 p4 σ w6_6 w8_6 w6_6 w8_6) else (f_X10_weightLeft_l6_67 x p2 p3 p4 σ w6_6 w8_6 ((w6_6 * ((100 - (xi σ 183 (xe σ 5 (ix w8_6)))).toInt64)) / 100) w8_6)))
def ob_X10_weightLeft_6 (x : Nat) (p2 : Int32) (p3 : Int32) (p4 : Int32) (σ : XS) (w6_6 : Int64) (w8_6 : Int32) : Prop := (oif ((nI (xn σ 5)) ≤ w8_6) True (vp_in w8_6 (xn σ 5) ∧ ((xk σ (xe σ 5 (ix w8_6))) = 9 ∧ (of_X8_isThrough σ (xe σ 5 (ix w8_6)) p2 p3 p4 ∧ True))))
def s_X10_weightLeft_6 (x : Nat) (p2 : Int32) (p3 : Int32) (p4 : Int32) (σ : XS) (v : Int64 × Int32) : Bool × (Int64 × Int32) := b_X10_weightLeft_6 x p2 p3 p4 σ v.1 v.2
def os_X10_weightLeft_6 (x : Nat) (p2 : Int32) (p3 : Int32) (p4 : Int32) (σ : XS) (v : Int64 × Int32) : Prop := ob_X10_weightLeft_6 x p2 p3 p4 σ v.1 v.2
def f_X10_weightLeft_73 (σ : XS) (x : Nat) (p1 : Int64) (p2 : Int32) (p3 : Int32) (p4 : Int32) (v6_73 : Int64) : Int64 := v6_73
def f_X10_weightLeft_6 (σ : XS) (x : Nat) (p1 : Int64) (p2 : Int32) (p3 : Int32) (p4 : Int32) (v6_6 : Int64) (v8_6 : Int32) : Int64 := (f_X10_weightLeft_73 σ x p1 p2 p3 p4 ((itr (s_X10_weightLeft_6 x p2 p3 p4 σ) FU (v6_6, v8_6)).1))
def of_X10_weightLeft_6 (σ : XS) (x : Nat) (p1 : Int64) (p2 : Int32) (p3 : Int32) (p4 : Int32) (v6_6 : Int64) (v8_6 : Int32) : Prop := (ito (s_X10_weightLeft_6 x p2 p3 p4 σ) (os_X10_weightLeft_6 x p2 p3 p4 σ) FU (v6_6, v8_6) ∧ True)
def f_X10_weightLeft (σ : XS) (x : Nat) (p1 : Int64) (p2 : Int32) (p3 : Int32) (p4 : Int32) : Int64 := (f_X10_weightLeft_6 σ x p1 p2 p3 p4 p1 0)
def of_X10_weightLeft (σ : XS) (x : Nat) (p1 : Int64) (p2 : Int32) (p3 : Int32) (p4 : Int32) : Prop := (of_X10_weightLeft_6 σ x p1 p2 p3 p4 p1 0)
set_option maxHeartbeats 4000000 in
set_option maxRecDepth 100000 in
theorem k_X10_weightLeft (l : Launch) (D : va_G) (a : Nat → ClassId) (x : Nat) (e0 : Nat) (A : Nat → Prop) (σ : XS) (p1 : Int64) (p2 : Int32) (p3 : Int32) (p4 : Int32) (hok : of_X10_weightLeft σ x p1 p2 p3 p4) : K0 l yX10_weightLeft cX10_weightLeft 10 ((some .long)) 3 64 [.ref x, .long p1, .int p2, .int p3, .int p4] (BX D a x e0 A σ) (.long (f_X10_weightLeft σ x p1 p2 p3 p4)) := by
  refine go0l (D := D) (a := a) (by decide +kernel) (fun _ h => h.1.1) (Nat.le_of_ble_eq_true rfl) ?_
  intro p e s m args below meth c ls R Q hRf hRl C hl hB
  obtain ⟨hB, ret⟩ := hB
  have hE := hB.1
  have hM : HX D a x e0 A σ s.heap s.heap [] := ⟨hB.2, va_S.rf⟩
  have hl : lv_has ls 10 [(0, .ref x), (1, .long p1), (3, .int p2), (4, .int p3), (5, .int p4)] := hl
  have hx := C.1.1
  have hb := C.1.2.1
  have hts := C.1.2.2.2.2
  have hown := C.1.2.2.2.1
  have hf : (f_X10_weightLeft σ x p1 p2 p3 p4) = (f_X10_weightLeft σ x p1 p2 p3 p4) := rfl
  have J_73 : ∀ (v6_73 : Int64), (f_X10_weightLeft σ x p1 p2 p3 p4) = f_X10_weightLeft_73 σ x p1 p2 p3 p4 v6_73 → ∀ (ls : Array Slot), lv_has ls 10 [(6, .long v6_73)] → W p l e R s m args below meth c s.heap [] 0 0 Q (F0 m 73 ls []) := by
    intro v6_73 hf ls hl
    refine lv_lload hx hb dX10_weightLeft_73 (lv_at hl 0 rfl) ?_
    exact ret _ _ _ dX10_weightLeft_75 hf
  have J_6 : ∀ (v6_6 : Int64) (v8_6 : Int32), (f_X10_weightLeft σ x p1 p2 p3 p4) = f_X10_weightLeft_6 σ x p1 p2 p3 p4 v6_6 v8_6 → of_X10_weightLeft_6 σ x p1 p2 p3 p4 v6_6 v8_6 → ∀ (ls : Array Slot), lv_has ls 10 [(0, .ref x), (3, .int p2), (4, .int p3), (5, .int p4), (6, .long v6_6), (8, .int v8_6)] → W p l e R s m args below meth c s.heap [] 0 0 Q (F0 m 6 ls []) := by
    intro v6_6 v8_6 hf hok ls hl
    refine itr_W (f := (s_X10_weightLeft_6 x p2 p3 p4 σ)) (o := (os_X10_weightLeft_6 x p2 p3 p4 σ)) (fun (v : Int64 × Int32) => ∀ (ls : Array Slot), lv_has ls 10 [(0, .ref x), (3, .int p2), (4, .int p3), (5, .int p4), (6, .long v.1), (8, .int v.2)] → W p l e R s m args below meth c s.heap [] 0 0 Q (F0 m 6 ls [])) (fun (v : Int64 × Int32) => ∀ (ls : Array Slot), lv_has ls 10 [(6, .long v.1)] → W p l e R s m args below meth c s.heap [] 0 0 Q (F0 m 73 ls [])) ?_ FU (v6_6, v8_6) (And.left hok) ?_ ls (lv_sub hl [0, 1, 2, 3, 4, 5] rfl)
    · intro v hov kc ke
      obtain ⟨w6_6, w8_6⟩ := v
      have hok : ob_X10_weightLeft_6 x p2 p3 p4 σ w6_6 w8_6 := hov
      change ∀ v', (b_X10_weightLeft_6 x p2 p3 p4 σ w6_6 w8_6) = (true, v') → _ at kc
      change ∀ v', (b_X10_weightLeft_6 x p2 p3 p4 σ w6_6 w8_6) = (false, v') → _ at ke
      have hf : (b_X10_weightLeft_6 x p2 p3 p4 σ w6_6 w8_6) = (b_X10_weightLeft_6 x p2 p3 p4 σ w6_6 w8_6) := rfl
      intro ls hl
      have J_l6_67 : ∀ (v6_67 : Int64) (v8_67 : Int32), (b_X10_weightLeft_6 x p2 p3 p4 σ w6_6 w8_6) = f_X10_weightLeft_l6_67 x p2 p3 p4 σ w6_6 w8_6 v6_67 v8_67 → ∀ (ls : Array Slot), lv_has ls 10 [(0, .ref x), (3, .int p2), (4, .int p3), (5, .int p4), (6, .long v6_67), (8, .int v8_67)] → W p l e R s m args below meth c s.heap [] 0 0 Q (F0 m 67 ls []) := by
        intro v6_67 v8_67 hf ls hl
        refine lv_iinc (v := (v8_67 + 1)) (lv' := [(8, .int (v8_67 + 1)), (0, .ref x), (3, .int p2), (4, .int p3), (5, .int p4), (6, .long v6_67)]) hx hb dX10_weightLeft_67 hl (k := 5) rfl rfl (by decide) rfl (fun ls hl => ?_)
        refine lv_goto (tgt := 6) hx hb dX10_weightLeft_70 (by decide) ?_
        exact kc (v6_67, (v8_67 + 1)) hf ls (lv_sub hl [1, 2, 3, 4, 5, 0] rfl)
      refine lv_iload hx hb dX10_weightLeft_6 (lv_at hl 5 rfl) ?_
      refine lv_aload_n hx hb dX10_weightLeft_8 rfl (lv_at hl 0 rfl) ?_
      refine xt_walks C hM dX10_weightLeft_9 ?_
      refine xl_size (j := 5) C hE hM (by decide) hRf hRl (Nat.le_of_ble_eq_true rfl) (Nat.le_of_ble_eq_true rfl) hl.1 (Nat.le_of_ble_eq_true rfl) (Nat.zero_le _) (Nat.zero_le _) dX10_weightLeft_12 ?_
      refine lv_icmp_ge (tgt := 73) hx hb dX10_weightLeft_17 (by decide) (fun c_1 => ?_) (fun c_1 => ?_)
      · have hf := hf.trans (if_pos c_1)
        have hok := oif_pos hok c_1
        exact ke (w6_6, w8_6) hf ls (lv_sub hl [4] rfl)
      · have hf := hf.trans (if_neg c_1)
        have hok := oif_neg hok c_1
        refine lv_aload_n hx hb dX10_weightLeft_20 rfl (lv_at hl 0 rfl) ?_
        refine xt_walks C hM dX10_weightLeft_21 ?_
        refine lv_iload hx hb dX10_weightLeft_24 (lv_at hl 5 rfl) ?_
        have ok_2 := And.left hok
        have hok := And.right hok
        refine xl_get (j := 5) C hE hM (by decide) ok_2 hRf hRl (Nat.le_of_ble_eq_true rfl) (Nat.le_of_ble_eq_true rfl) hl.1 (Nat.le_of_ble_eq_true rfl) (Nat.zero_le _) (Nat.zero_le _) dX10_weightLeft_26 ?_
        have hk_3 := And.left hok
        have hok := And.right hok
        refine xcast (K := 9) C (xat_9 hM hk_3) rfl q_663 dX10_weightLeft_31 ?_
        refine lv_astore (lv' := [(9, .ref (xe σ 5 (ix w8_6))), (0, .ref x), (3, .int p2), (4, .int p3), (5, .int p4), (6, .long w6_6), (8, .int w8_6)]) hx hb dX10_weightLeft_34 hl (by decide) rfl (fun ls hl => ?_)
        refine lv_aload hx hb dX10_weightLeft_36 (lv_at hl 0 rfl) ?_
        refine lv_iload_n hx hb dX10_weightLeft_38 rfl (lv_at hl 2 rfl) ?_
        refine lv_iload hx hb dX10_weightLeft_39 (lv_at hl 3 rfl) ?_
        refine lv_iload hx hb dX10_weightLeft_41 (lv_at hl 4 rfl) ?_
        have ok_4 := And.left hok
        have hok := And.right hok
        refine cc_X (av := [.int p2, .int p3, .int p4]) (b := (xe σ 5 (ix w8_6))) C hE hM (k_X8_isThrough l D a x e0 A σ (xe σ 5 (ix w8_6)) p2 p3 p4 ok_4) cw_X10_424 (okR_of hRf hRl (Nat.le_of_ble_eq_true rfl) (Nat.le_of_ble_eq_true rfl)) (xr_at (K := 9) C hM hk_3 (by decide) rfl) rfl rfl hl.1 (Nat.le_of_ble_eq_true rfl) (Nat.zero_le _) (Nat.zero_le _) dX10_weightLeft_43 ?_
        refine lv_if_eq (tgt := 67) hx hb dX10_weightLeft_46 (by decide) (fun c_5 => ?_) (fun c_5 => ?_)
        · have hf := hf.trans (if_pos c_5)
          exact J_l6_67 w6_6 w8_6 hf ls (lv_sub hl [1, 2, 3, 4, 5, 6] rfl)
        · have hf := hf.trans (if_neg c_5)
          refine lv_lload hx hb dX10_weightLeft_49 (lv_at hl 5 rfl) ?_
          refine lv_bipush (v := 100) hx hb dX10_weightLeft_51 (by decide) ?_
          refine lv_aload hx hb dX10_weightLeft_53 (lv_at hl 0 rfl) ?_
          refine xg_X10_448 C hM hk_3 dX10_weightLeft_55 ?_
          refine lv_isub hx hb dX10_weightLeft_58 ?_
          refine lv_i2l (v := ((100 - (xi σ 183 (xe σ 5 (ix w8_6)))).toInt64)) hx hb dX10_weightLeft_59 rfl ?_
          refine lv_lmul hx hb dX10_weightLeft_60 ?_
          refine lv_ldc2 (v := 100) hx hb hown (hts _ q_730) dX10_weightLeft_61 ?_
          refine lv_ldiv hx hb dX10_weightLeft_64 (by decide) ?_
          refine lv_lstore (lv' := [(6, .long ((w6_6 * ((100 - (xi σ 183 (xe σ 5 (ix w8_6)))).toInt64)) / 100)), (9, .ref (xe σ 5 (ix w8_6))), (0, .ref x), (3, .int p2), (4, .int p3), (5, .int p4), (8, .int w8_6)]) hx hb dX10_weightLeft_65 hl (by decide) rfl (fun ls hl => ?_)
          exact J_l6_67 ((w6_6 * ((100 - (xi σ 183 (xe σ 5 (ix w8_6)))).toInt64)) / 100) w8_6 hf ls (lv_sub hl [2, 3, 4, 5, 0, 6] rfl)
    · have hok := And.right hok
      intro ls hl
      exact J_73 ((itr (s_X10_weightLeft_6 x p2 p3 p4 σ) FU (v6_6, v8_6)).1) hf ls (lv_sub hl [0] rfl)
  refine lv_lload_n hx hb dX10_weightLeft_0 rfl (lv_at hl 1 rfl) ?_
  refine lv_lstore (lv' := [(6, .long p1), (0, .ref x), (1, .long p1), (3, .int p2), (4, .int p3), (5, .int p4)]) hx hb dX10_weightLeft_1 hl (by decide) rfl (fun ls hl => ?_)
  refine lv_iconst (v := 0) hx hb dX10_weightLeft_3 (by decide) ?_
  refine lv_istore (lv' := [(8, .int 0), (6, .long p1), (0, .ref x), (1, .long p1), (3, .int p2), (4, .int p3), (5, .int p4)]) hx hb dX10_weightLeft_4 hl (by decide) rfl (fun ls hl => ?_)
  exact J_6 p1 0 hf hok ls (lv_sub hl [2, 4, 5, 6, 1, 0] rfl)
def f_X10_weightOfGround_l11_100 (x : Nat) (p1 : Int32) (σ : XS) (w2_11 : Int64) (w4_11 : Int32) (v2_100 : Int64) (v4_100 : Int32) : Bool × (Int64 × Int32) := (true, (v2_100, (v4_100 + 1)))
def b_X10_weightOfGround_11 (x : Nat) (p1 : Int32) (σ : XS) (w2_11 : Int64) (w4_11 : Int32) : Bool × (Int64 × Int32) := (if (nI (xn σ 5)) ≤ w4_11 then (false, (w2_11, w4_11)) else (if (xi σ 184 (xe σ 5 (ix w4_11))) = 0 then (f_X10_weightOfGround_l11_100 x p1 σ w2_11 w4_11 w2_11 w4_11) else (if (xi σ 180 (xe σ 5 (ix w4_11))) = p1 then (f_X10_weightOfGround_l11_100 x p1 σ w2_11 w4_11 (w2_11 + ((f_X10_weightLeft σ x (f_X3_weight σ (x + 9) (xi σ 181 (xe σ 5 (ix w4_11))) (xi σ 182 (xe σ 5 (ix w4_11)))) p1 (xi σ 181 (xe σ 5 (ix w4_11))) (xi σ 182 (xe σ 5 (ix w4_11)))) - (f_X3_weight σ (x + 9) (xi σ 181 (xe σ 5 (ix w4_11))) (xi σ 182 (xe σ 5 (ix w4_11)))))) w4_11) else (f_X10_weightOfGround_l11_100 x p1 σ w2_11 w4_11 w2_11 w4_11))))
def ob_X10_weightOfGround_11 (x : Nat) (p1 : Int32) (σ : XS) (w2_11 : Int64) (w4_11 : Int32) : Prop := (oif ((nI (xn σ 5)) ≤ w4_11) True (vp_in w4_11 (xn σ 5) ∧ ((xk σ (xe σ 5 (ix w4_11))) = 9 ∧ (oif ((xi σ 184 (xe σ 5 (ix w4_11))) = 0) True (oif ((xi σ 180 (xe σ 5 (ix w4_11))) = p1) (of_X3_weight σ (x + 9) (xi σ 181 (xe σ 5 (ix w4_11))) (xi σ 182 (xe σ 5 (ix w4_11))) ∧ ((xk σ (x + 9)) = 4 ∧ (of_X10_weightLeft σ x (f_X3_weight σ (x + 9) (xi σ 181 (xe σ 5 (ix w4_11))) (xi σ 182 (xe σ 5 (ix w4_11)))) p1 (xi σ 181 (xe σ 5 (ix w4_11))) (xi σ 182 (xe σ 5 (ix w4_11))) ∧ True))) True)))))
def s_X10_weightOfGround_11 (x : Nat) (p1 : Int32) (σ : XS) (v : Int64 × Int32) : Bool × (Int64 × Int32) := b_X10_weightOfGround_11 x p1 σ v.1 v.2
def os_X10_weightOfGround_11 (x : Nat) (p1 : Int32) (σ : XS) (v : Int64 × Int32) : Prop := ob_X10_weightOfGround_11 x p1 σ v.1 v.2
def f_X10_weightOfGround_106 (σ : XS) (x : Nat) (p1 : Int32) (v2_106 : Int64) : Int64 := v2_106
def f_X10_weightOfGround_11 (σ : XS) (x : Nat) (p1 : Int32) (v2_11 : Int64) (v4_11 : Int32) : Int64 := (f_X10_weightOfGround_106 σ x p1 ((itr (s_X10_weightOfGround_11 x p1 σ) FU (v2_11, v4_11)).1))
def of_X10_weightOfGround_11 (σ : XS) (x : Nat) (p1 : Int32) (v2_11 : Int64) (v4_11 : Int32) : Prop := (ito (s_X10_weightOfGround_11 x p1 σ) (os_X10_weightOfGround_11 x p1 σ) FU (v2_11, v4_11) ∧ True)
def f_X10_weightOfGround (σ : XS) (x : Nat) (p1 : Int32) : Int64 := (f_X10_weightOfGround_11 σ x p1 (f_X3_weightOfGround σ (x + 9)) 0)
def of_X10_weightOfGround (σ : XS) (x : Nat) (p1 : Int32) : Prop := (of_X3_weightOfGround σ (x + 9) ∧ ((xk σ (x + 9)) = 4 ∧ (of_X10_weightOfGround_11 σ x p1 (f_X3_weightOfGround σ (x + 9)) 0)))
set_option maxHeartbeats 4000000 in
set_option maxRecDepth 100000 in
theorem k_X10_weightOfGround (l : Launch) (D : va_G) (a : Nat → ClassId) (x : Nat) (e0 : Nat) (A : Nat → Prop) (σ : XS) (p1 : Int32) (hok : of_X10_weightOfGround σ x p1) : K0 l yX10_weightOfGround cX10_weightOfGround 8 ((some .long)) 4 93 [.ref x, .int p1] (BX D a x e0 A σ) (.long (f_X10_weightOfGround σ x p1)) := by
  refine go0l (D := D) (a := a) (by decide +kernel) (fun _ h => h.1.1) (Nat.le_of_ble_eq_true rfl) ?_
  intro p e s m args below meth c ls R Q hRf hRl C hl hB
  obtain ⟨hB, ret⟩ := hB
  have hE := hB.1
  have hM : HX D a x e0 A σ s.heap s.heap [] := ⟨hB.2, va_S.rf⟩
  have hl : lv_has ls 8 [(0, .ref x), (1, .int p1)] := hl
  have hx := C.1.1
  have hb := C.1.2.1
  have hts := C.1.2.2.2.2
  have hown := C.1.2.2.2.1
  have hf : (f_X10_weightOfGround σ x p1) = (f_X10_weightOfGround σ x p1) := rfl
  have J_106 : ∀ (v2_106 : Int64), (f_X10_weightOfGround σ x p1) = f_X10_weightOfGround_106 σ x p1 v2_106 → ∀ (ls : Array Slot), lv_has ls 8 [(2, .long v2_106)] → W p l e R s m args below meth c s.heap [] 0 0 Q (F0 m 106 ls []) := by
    intro v2_106 hf ls hl
    refine lv_lload_n hx hb dX10_weightOfGround_106 rfl (lv_at hl 0 rfl) ?_
    exact ret _ _ _ dX10_weightOfGround_107 hf
  have J_11 : ∀ (v2_11 : Int64) (v4_11 : Int32), (f_X10_weightOfGround σ x p1) = f_X10_weightOfGround_11 σ x p1 v2_11 v4_11 → of_X10_weightOfGround_11 σ x p1 v2_11 v4_11 → ∀ (ls : Array Slot), lv_has ls 8 [(0, .ref x), (1, .int p1), (2, .long v2_11), (4, .int v4_11)] → W p l e R s m args below meth c s.heap [] 0 0 Q (F0 m 11 ls []) := by
    intro v2_11 v4_11 hf hok ls hl
    refine itr_W (f := (s_X10_weightOfGround_11 x p1 σ)) (o := (os_X10_weightOfGround_11 x p1 σ)) (fun (v : Int64 × Int32) => ∀ (ls : Array Slot), lv_has ls 8 [(0, .ref x), (1, .int p1), (2, .long v.1), (4, .int v.2)] → W p l e R s m args below meth c s.heap [] 0 0 Q (F0 m 11 ls [])) (fun (v : Int64 × Int32) => ∀ (ls : Array Slot), lv_has ls 8 [(2, .long v.1)] → W p l e R s m args below meth c s.heap [] 0 0 Q (F0 m 106 ls [])) ?_ FU (v2_11, v4_11) (And.left hok) ?_ ls (lv_sub hl [0, 1, 2, 3] rfl)
    · intro v hov kc ke
      obtain ⟨w2_11, w4_11⟩ := v
      have hok : ob_X10_weightOfGround_11 x p1 σ w2_11 w4_11 := hov
      change ∀ v', (b_X10_weightOfGround_11 x p1 σ w2_11 w4_11) = (true, v') → _ at kc
      change ∀ v', (b_X10_weightOfGround_11 x p1 σ w2_11 w4_11) = (false, v') → _ at ke
      have hf : (b_X10_weightOfGround_11 x p1 σ w2_11 w4_11) = (b_X10_weightOfGround_11 x p1 σ w2_11 w4_11) := rfl
      intro ls hl
      have J_l11_100 : ∀ (v2_100 : Int64) (v4_100 : Int32), (b_X10_weightOfGround_11 x p1 σ w2_11 w4_11) = f_X10_weightOfGround_l11_100 x p1 σ w2_11 w4_11 v2_100 v4_100 → ∀ (ls : Array Slot), lv_has ls 8 [(0, .ref x), (1, .int p1), (2, .long v2_100), (4, .int v4_100)] → W p l e R s m args below meth c s.heap [] 0 0 Q (F0 m 100 ls []) := by
        intro v2_100 v4_100 hf ls hl
        refine lv_iinc (v := (v4_100 + 1)) (lv' := [(4, .int (v4_100 + 1)), (0, .ref x), (1, .int p1), (2, .long v2_100)]) hx hb dX10_weightOfGround_100 hl (k := 3) rfl rfl (by decide) rfl (fun ls hl => ?_)
        refine lv_goto (tgt := 11) hx hb dX10_weightOfGround_103 (by decide) ?_
        exact kc (v2_100, (v4_100 + 1)) hf ls (lv_sub hl [1, 2, 3, 0] rfl)
      refine lv_iload hx hb dX10_weightOfGround_11 (lv_at hl 3 rfl) ?_
      refine lv_aload_n hx hb dX10_weightOfGround_13 rfl (lv_at hl 0 rfl) ?_
      refine xt_walks C hM dX10_weightOfGround_14 ?_
      refine xl_size (j := 5) C hE hM (by decide) hRf hRl (Nat.le_of_ble_eq_true rfl) (Nat.le_of_ble_eq_true rfl) hl.1 (Nat.le_of_ble_eq_true rfl) (Nat.zero_le _) (Nat.zero_le _) dX10_weightOfGround_17 ?_
      refine lv_icmp_ge (tgt := 106) hx hb dX10_weightOfGround_22 (by decide) (fun c_3 => ?_) (fun c_3 => ?_)
      · have hf := hf.trans (if_pos c_3)
        have hok := oif_pos hok c_3
        exact ke (w2_11, w4_11) hf ls (lv_sub hl [2] rfl)
      · have hf := hf.trans (if_neg c_3)
        have hok := oif_neg hok c_3
        refine lv_aload_n hx hb dX10_weightOfGround_25 rfl (lv_at hl 0 rfl) ?_
        refine xt_walks C hM dX10_weightOfGround_26 ?_
        refine lv_iload hx hb dX10_weightOfGround_29 (lv_at hl 3 rfl) ?_
        have ok_4 := And.left hok
        have hok := And.right hok
        refine xl_get (j := 5) C hE hM (by decide) ok_4 hRf hRl (Nat.le_of_ble_eq_true rfl) (Nat.le_of_ble_eq_true rfl) hl.1 (Nat.le_of_ble_eq_true rfl) (Nat.zero_le _) (Nat.zero_le _) dX10_weightOfGround_31 ?_
        have hk_5 := And.left hok
        have hok := And.right hok
        refine xcast (K := 9) C (xat_9 hM hk_5) rfl q_663 dX10_weightOfGround_36 ?_
        refine lv_astore (lv' := [(5, .ref (xe σ 5 (ix w4_11))), (0, .ref x), (1, .int p1), (2, .long w2_11), (4, .int w4_11)]) hx hb dX10_weightOfGround_39 hl (by decide) rfl (fun ls hl => ?_)
        refine lv_aload hx hb dX10_weightOfGround_41 (lv_at hl 0 rfl) ?_
        refine xg_X10_456 C hM hk_5 dX10_weightOfGround_43 ?_
        refine lv_if_eq (tgt := 100) hx hb dX10_weightOfGround_46 (by decide) (fun c_6 => ?_) (fun c_6 => ?_)
        · have hf := hf.trans (if_pos c_6)
          have hok := oif_pos hok c_6
          exact J_l11_100 w2_11 w4_11 hf ls (lv_sub hl [1, 2, 3, 4] rfl)
        · have hf := hf.trans (if_neg c_6)
          have hok := oif_neg hok c_6
          refine lv_aload hx hb dX10_weightOfGround_49 (lv_at hl 0 rfl) ?_
          refine xg_X10_459 C hM hk_5 dX10_weightOfGround_51 ?_
          refine lv_iload_n hx hb dX10_weightOfGround_54 rfl (lv_at hl 2 rfl) ?_
          refine lv_icmp_ne (tgt := 100) hx hb dX10_weightOfGround_55 (by decide) (fun c_7 => ?_) (fun c_7 => ?_)
          · have hf := hf.trans (if_neg c_7)
            have hok := oif_neg hok c_7
            exact J_l11_100 w2_11 w4_11 hf ls (lv_sub hl [1, 2, 3, 4] rfl)
          · have hf := hf.trans (if_pos c_7)
            have hok := oif_pos hok c_7
            refine lv_aload_n hx hb dX10_weightOfGround_58 rfl (lv_at hl 1 rfl) ?_
            refine xt_field C hM dX10_weightOfGround_59 ?_
            refine lv_aload hx hb dX10_weightOfGround_62 (lv_at hl 0 rfl) ?_
            refine xg_X10_460 C hM hk_5 dX10_weightOfGround_64 ?_
            refine lv_aload hx hb dX10_weightOfGround_67 (lv_at hl 0 rfl) ?_
            refine xg_X10_461 C hM hk_5 dX10_weightOfGround_69 ?_
            have ok_8 := And.left hok
            have hok := And.right hok
            have hk_9 := And.left hok
            have hok := And.right hok
            refine cc_X (av := [.int (xi σ 181 (xe σ 5 (ix w4_11))), .int (xi σ 182 (xe σ 5 (ix w4_11)))]) (b := (x + 9)) C hE hM (k_X3_weight l D a x e0 A σ (x + 9) (xi σ 181 (xe σ 5 (ix w4_11))) (xi σ 182 (xe σ 5 (ix w4_11))) ok_8) cw_X10_431 (okR_of hRf hRl (Nat.le_of_ble_eq_true rfl) (Nat.le_of_ble_eq_true rfl)) (xr_at (K := 4) C hM hk_9 (by decide) rfl) rfl rfl hl.1 (Nat.le_of_ble_eq_true rfl) (Nat.zero_le _) (Nat.zero_le _) dX10_weightOfGround_72 ?_
            refine lv_lstore (lv' := [(6, .long (f_X3_weight σ (x + 9) (xi σ 181 (xe σ 5 (ix w4_11))) (xi σ 182 (xe σ 5 (ix w4_11))))), (5, .ref (xe σ 5 (ix w4_11))), (0, .ref x), (1, .int p1), (2, .long w2_11), (4, .int w4_11)]) hx hb dX10_weightOfGround_75 hl (by decide) rfl (fun ls hl => ?_)
            refine lv_lload_n hx hb dX10_weightOfGround_77 rfl (lv_at hl 4 rfl) ?_
            refine lv_aload_n hx hb dX10_weightOfGround_78 rfl (lv_at hl 2 rfl) ?_
            refine lv_lload hx hb dX10_weightOfGround_79 (lv_at hl 0 rfl) ?_
            refine lv_iload_n hx hb dX10_weightOfGround_81 rfl (lv_at hl 3 rfl) ?_
            refine lv_aload hx hb dX10_weightOfGround_82 (lv_at hl 1 rfl) ?_
            refine xg_X10_460 C hM hk_5 dX10_weightOfGround_84 ?_
            refine lv_aload hx hb dX10_weightOfGround_87 (lv_at hl 1 rfl) ?_
            refine xg_X10_461 C hM hk_5 dX10_weightOfGround_89 ?_
            have ok_10 := And.left hok
            have hok := And.right hok
            refine cc_X (av := [.long (f_X3_weight σ (x + 9) (xi σ 181 (xe σ 5 (ix w4_11))) (xi σ 182 (xe σ 5 (ix w4_11)))), .int p1, .int (xi σ 181 (xe σ 5 (ix w4_11))), .int (xi σ 182 (xe σ 5 (ix w4_11)))]) (b := x) C hE hM (k_X10_weightLeft l D a x e0 A σ (f_X3_weight σ (x + 9) (xi σ 181 (xe σ 5 (ix w4_11))) (xi σ 182 (xe σ 5 (ix w4_11)))) p1 (xi σ 181 (xe σ 5 (ix w4_11))) (xi σ 182 (xe σ 5 (ix w4_11))) ok_10) cw_X10_435 (okR_of hRf hRl (Nat.le_of_ble_eq_true rfl) (Nat.le_of_ble_eq_true rfl)) (xr_net C hM) rfl rfl hl.1 (Nat.le_of_ble_eq_true rfl) (Nat.zero_le _) (Nat.zero_le _) dX10_weightOfGround_92 ?_
            refine lv_lload hx hb dX10_weightOfGround_95 (lv_at hl 0 rfl) ?_
            refine lv_lsub hx hb dX10_weightOfGround_97 ?_
            refine lv_ladd hx hb dX10_weightOfGround_98 ?_
            refine lv_lstore_n (lv' := [(2, .long (w2_11 + ((f_X10_weightLeft σ x (f_X3_weight σ (x + 9) (xi σ 181 (xe σ 5 (ix w4_11))) (xi σ 182 (xe σ 5 (ix w4_11)))) p1 (xi σ 181 (xe σ 5 (ix w4_11))) (xi σ 182 (xe σ 5 (ix w4_11)))) - (f_X3_weight σ (x + 9) (xi σ 181 (xe σ 5 (ix w4_11))) (xi σ 182 (xe σ 5 (ix w4_11))))))), (6, .long (f_X3_weight σ (x + 9) (xi σ 181 (xe σ 5 (ix w4_11))) (xi σ 182 (xe σ 5 (ix w4_11))))), (5, .ref (xe σ 5 (ix w4_11))), (0, .ref x), (1, .int p1), (4, .int w4_11)]) hx hb dX10_weightOfGround_99 rfl hl (by decide) rfl (fun ls hl => ?_)
            exact J_l11_100 (w2_11 + ((f_X10_weightLeft σ x (f_X3_weight σ (x + 9) (xi σ 181 (xe σ 5 (ix w4_11))) (xi σ 182 (xe σ 5 (ix w4_11)))) p1 (xi σ 181 (xe σ 5 (ix w4_11))) (xi σ 182 (xe σ 5 (ix w4_11)))) - (f_X3_weight σ (x + 9) (xi σ 181 (xe σ 5 (ix w4_11))) (xi σ 182 (xe σ 5 (ix w4_11)))))) w4_11 hf ls (lv_sub hl [3, 4, 0, 5] rfl)
    · have hok := And.right hok
      intro ls hl
      exact J_106 ((itr (s_X10_weightOfGround_11 x p1 σ) FU (v2_11, v4_11)).1) hf ls (lv_sub hl [0] rfl)
  refine lv_aload_n hx hb dX10_weightOfGround_0 rfl (lv_at hl 0 rfl) ?_
  refine xt_field C hM dX10_weightOfGround_1 ?_
  have ok_1 := And.left hok
  have hok := And.right hok
  have hk_2 := And.left hok
  have hok := And.right hok
  refine cc_X (av := []) (b := (x + 9)) C hE hM (k_X3_weightOfGround l D a x e0 A σ (x + 9) ok_1) cw_X10_453 (okR_of hRf hRl (Nat.le_of_ble_eq_true rfl) (Nat.le_of_ble_eq_true rfl)) (xr_at (K := 4) C hM hk_2 (by decide) rfl) rfl rfl hl.1 (Nat.le_of_ble_eq_true rfl) (Nat.zero_le _) (Nat.zero_le _) dX10_weightOfGround_4 ?_
  refine lv_lstore_n (lv' := [(2, .long (f_X3_weightOfGround σ (x + 9))), (0, .ref x), (1, .int p1)]) hx hb dX10_weightOfGround_7 rfl hl (by decide) rfl (fun ls hl => ?_)
  refine lv_iconst (v := 0) hx hb dX10_weightOfGround_8 (by decide) ?_
  refine lv_istore (lv' := [(4, .int 0), (2, .long (f_X3_weightOfGround σ (x + 9))), (0, .ref x), (1, .int p1)]) hx hb dX10_weightOfGround_9 hl (by decide) rfl (fun ls hl => ?_)
  exact J_11 (f_X3_weightOfGround σ (x + 9)) 0 hf hok ls (lv_sub hl [2, 3, 1, 0] rfl)
def f_X10_chanceIn_46 (σ : XS) (x : Nat) (p1 : Nat) (p2 : Int32) (p3 : Int32) (p4 : Int32) (σ_46 : XS) : Int64 × XS := ((f_X10_divided ((f_X10_weightLeft σ_46 x (f_X3_weight σ_46 (x + 9) p3 p4) p2 p3 p4) * 1000000) (f_X10_weightOfGround σ_46 x p2)), σ_46)
def of_X10_chanceIn_46 (σ : XS) (x : Nat) (p1 : Nat) (p2 : Int32) (p3 : Int32) (p4 : Int32) (σ_46 : XS) : Prop := (of_X3_weight σ_46 (x + 9) p3 p4 ∧ ((xk σ_46 (x + 9)) = 4 ∧ (of_X10_weightLeft σ_46 x (f_X3_weight σ_46 (x + 9) p3 p4) p2 p3 p4 ∧ (of_X10_weightOfGround σ_46 x p2 ∧ (of_X10_divided ((f_X10_weightLeft σ_46 x (f_X3_weight σ_46 (x + 9) p3 p4) p2 p3 p4) * 1000000) (f_X10_weightOfGround σ_46 x p2) ∧ True)))))
def f_X10_chanceIn_25 (σ : XS) (x : Nat) (p1 : Nat) (p2 : Int32) (p3 : Int32) (p4 : Int32) (σ_25 : XS) : Int64 × XS := (f_X10_chanceIn_46 σ x p1 p2 p3 p4 σ_25)
def of_X10_chanceIn_25 (σ : XS) (x : Nat) (p1 : Nat) (p2 : Int32) (p3 : Int32) (p4 : Int32) (σ_25 : XS) : Prop := (of_X10_chanceIn_46 σ x p1 p2 p3 p4 σ_25)
def f_X10_chanceIn (σ : XS) (x : Nat) (p1 : Nat) (p2 : Int32) (p3 : Int32) (p4 : Int32) : Int64 × XS := (if (f_X10_windOf σ x (xi σ 100 p1)) = 0 then (f_X10_chanceIn_25 σ x p1 p2 p3 p4 ((f_X3_scatter σ (x + 9) p1 0 0).2)) else (f_X10_chanceIn_46 σ x p1 p2 p3 p4 ((f_X3_scatter σ (x + 9) p1 (xi σ 201 (f_X10_windOf σ x (xi σ 100 p1))) (xi σ 202 (f_X10_windOf σ x (xi σ 100 p1)))).2)))
def of_X10_chanceIn (σ : XS) (x : Nat) (p1 : Nat) (p2 : Int32) (p3 : Int32) (p4 : Int32) : Prop := ((xk σ p1) = 5 ∧ (of_X10_windOf σ x (xi σ 100 p1) ∧ (oif ((f_X10_windOf σ x (xi σ 100 p1)) = 0) (of_X3_scatter σ (x + 9) p1 0 0 ∧ ((xk σ (x + 9)) = 4 ∧ (of_X10_chanceIn_25 σ x p1 p2 p3 p4 ((f_X3_scatter σ (x + 9) p1 0 0).2)))) ((xk σ (f_X10_windOf σ x (xi σ 100 p1))) = 10 ∧ (of_X3_scatter σ (x + 9) p1 (xi σ 201 (f_X10_windOf σ x (xi σ 100 p1))) (xi σ 202 (f_X10_windOf σ x (xi σ 100 p1))) ∧ ((xk σ (x + 9)) = 4 ∧ (of_X10_chanceIn_46 σ x p1 p2 p3 p4 ((f_X3_scatter σ (x + 9) p1 (xi σ 201 (f_X10_windOf σ x (xi σ 100 p1))) (xi σ 202 (f_X10_windOf σ x (xi σ 100 p1)))).2))))))))
set_option maxHeartbeats 4000000 in
set_option maxRecDepth 100000 in
theorem k_X10_chanceIn (l : Launch) (D : va_G) (a : Nat → ClassId) (x : Nat) (e0 : Nat) (A : Nat → Prop) (σ : XS) (p1 : Nat) (p2 : Int32) (p3 : Int32) (p4 : Int32) (hok : of_X10_chanceIn σ x p1 p2 p3 p4) : KX l D a x e0 A yX10_chanceIn cX10_chanceIn 6 ((some .long)) 5 120 0 0 [.ref x, .ref p1, .int p2, .int p3, .int p4] σ (fun v => some (.long v)) (fun _ => f_X10_chanceIn σ x p1 p2 p3 p4) := by
  refine goXl (by decide +kernel) (Nat.le_of_ble_eq_true rfl) ?_
  intro p e s m args below meth c ls R Q nq hRf hRl hRc hRs hnq C hE hM hl ret
  have hl : lv_has ls 6 [(0, .ref x), (1, .ref p1), (2, .int p2), (3, .int p3), (4, .int p4)] := hl
  have hx := C.1.1
  have hb := C.1.2.1
  have hts := C.1.2.2.2.2
  have hown := C.1.2.2.2.1
  have hf : (f_X10_chanceIn σ x p1 p2 p3 p4) = (f_X10_chanceIn σ x p1 p2 p3 p4) := rfl
  have J_46 : ∀ (σ_46 : XS), (f_X10_chanceIn σ x p1 p2 p3 p4) = f_X10_chanceIn_46 σ x p1 p2 p3 p4 σ_46 → of_X10_chanceIn_46 σ x p1 p2 p3 p4 σ_46 → ∀ (H : Heap) (locs : List Loc) (ls : Array Slot), HX D a x e0 A σ_46 s.heap H locs → lv_has ls 6 [(0, .ref x), (2, .int p2), (3, .int p3), (4, .int p4)] → W p l e R s m args below meth c H locs 0 0 Q (F0 m 46 ls []) := by
    intro σ_46 hf hok H locs ls hM hl
    refine lv_aload_n hx hb dX10_chanceIn_46 rfl (lv_at hl 0 rfl) ?_
    refine lv_aload_n hx hb dX10_chanceIn_47 rfl (lv_at hl 0 rfl) ?_
    refine xt_field C hM dX10_chanceIn_48 ?_
    refine lv_iload_n hx hb dX10_chanceIn_51 rfl (lv_at hl 2 rfl) ?_
    refine lv_iload hx hb dX10_chanceIn_52 (lv_at hl 3 rfl) ?_
    have ok_7 := And.left hok
    have hok := And.right hok
    have hk_8 := And.left hok
    have hok := And.right hok
    refine cc_X (av := [.int p3, .int p4]) (b := (x + 9)) C hE hM (k_X3_weight l D a x e0 A σ_46 (x + 9) p3 p4 ok_7) cw_X10_431 (okR_of hRf hRl (Nat.le_of_ble_eq_true rfl) (Nat.le_of_ble_eq_true rfl)) (xr_at (K := 4) C hM hk_8 (by decide) rfl) rfl rfl hl.1 (Nat.le_of_ble_eq_true rfl) (Nat.zero_le _) (Nat.zero_le _) dX10_chanceIn_54 ?_
    refine lv_iload_n hx hb dX10_chanceIn_57 rfl (lv_at hl 1 rfl) ?_
    refine lv_iload_n hx hb dX10_chanceIn_58 rfl (lv_at hl 2 rfl) ?_
    refine lv_iload hx hb dX10_chanceIn_59 (lv_at hl 3 rfl) ?_
    have ok_9 := And.left hok
    have hok := And.right hok
    refine cc_X (av := [.long (f_X3_weight σ_46 (x + 9) p3 p4), .int p2, .int p3, .int p4]) (b := x) C hE hM (k_X10_weightLeft l D a x e0 A σ_46 (f_X3_weight σ_46 (x + 9) p3 p4) p2 p3 p4 ok_9) cw_X10_435 (okR_of hRf hRl (Nat.le_of_ble_eq_true rfl) (Nat.le_of_ble_eq_true rfl)) (xr_net C hM) rfl rfl hl.1 (Nat.le_of_ble_eq_true rfl) (Nat.zero_le _) (Nat.zero_le _) dX10_chanceIn_61 ?_
    refine lv_ldc2 (v := 1000000) hx hb hown (hts _ q_731) dX10_chanceIn_64 ?_
    refine lv_lmul hx hb dX10_chanceIn_67 ?_
    refine lv_aload_n hx hb dX10_chanceIn_68 rfl (lv_at hl 0 rfl) ?_
    refine lv_iload_n hx hb dX10_chanceIn_69 rfl (lv_at hl 1 rfl) ?_
    have ok_10 := And.left hok
    have hok := And.right hok
    refine cc_X (av := [.int p2]) (b := x) C hE hM (k_X10_weightOfGround l D a x e0 A σ_46 p2 ok_10) cw_X10_441 (okR_of hRf hRl (Nat.le_of_ble_eq_true rfl) (Nat.le_of_ble_eq_true rfl)) (xr_net C hM) rfl rfl hl.1 (Nat.le_of_ble_eq_true rfl) (Nat.zero_le _) (Nat.zero_le _) dX10_chanceIn_70 ?_
    have ok_11 := And.left hok
    have hok := And.right hok
    refine cc_S (av := [.long ((f_X10_weightLeft σ_46 x (f_X3_weight σ_46 (x + 9) p3 p4) p2 p3 p4) * 1000000), .long (f_X10_weightOfGround σ_46 x p2)]) C (k_X10_divided l D a ((f_X10_weightLeft σ_46 x (f_X3_weight σ_46 (x + 9) p3 p4) p2 p3 p4) * 1000000) (f_X10_weightOfGround σ_46 x p2) ok_11) cw_X10_444 (okR_of hRf hRl (Nat.le_of_ble_eq_true rfl) (Nat.le_of_ble_eq_true rfl)) rfl rfl hl.1 (Nat.le_of_ble_eq_true rfl) (Nat.zero_le _) (Nat.zero_le _) dX10_chanceIn_73 ?_
    exact ret _ _ _ _ _ _ hM dX10_chanceIn_76 hf
  have J_25 : ∀ (σ_25 : XS), (f_X10_chanceIn σ x p1 p2 p3 p4) = f_X10_chanceIn_25 σ x p1 p2 p3 p4 σ_25 → of_X10_chanceIn_25 σ x p1 p2 p3 p4 σ_25 → ∀ (H : Heap) (locs : List Loc) (ls : Array Slot), HX D a x e0 A σ_25 s.heap H locs → lv_has ls 6 [(0, .ref x), (2, .int p2), (3, .int p3), (4, .int p4)] → W p l e R s m args below meth c H locs 0 0 Q (F0 m 25 ls []) := by
    intro σ_25 hf hok H locs ls hM hl
    refine lv_goto (tgt := 46) hx hb dX10_chanceIn_25 (by decide) ?_
    exact J_46 σ_25 hf hok _ _ ls hM (lv_sub hl [0, 1, 2, 3] rfl)
  refine lv_aload_n hx hb dX10_chanceIn_0 rfl (lv_at hl 0 rfl) ?_
  refine lv_aload_n hx hb dX10_chanceIn_1 rfl (lv_at hl 1 rfl) ?_
  have hk_1 := And.left hok
  have hok := And.right hok
  refine xg_X10_419 C hM hk_1 dX10_chanceIn_2 ?_
  have ok_2 := And.left hok
  have hok := And.right hok
  refine cc_X (av := [.int (xi σ 100 p1)]) (b := x) C hE hM (k_X10_windOf l D a x e0 A σ (xi σ 100 p1) ok_2) cw_X10_215 (okR_of hRf hRl (Nat.le_of_ble_eq_true rfl) (Nat.le_of_ble_eq_true rfl)) (xr_net C hM) rfl rfl hl.1 (Nat.le_of_ble_eq_true rfl) (Nat.zero_le _) (Nat.zero_le _) dX10_chanceIn_5 ?_
  refine lx_astore (lv' := [(5, rv (f_X10_windOf σ x (xi σ 100 p1))), (0, .ref x), (1, .ref p1), (2, .int p2), (3, .int p3), (4, .int p4)]) hx hb dX10_chanceIn_8 hl (by decide) rfl (fun ls hl => ?_)
  refine lx_aload hx hb dX10_chanceIn_10 (lv_at hl 0 rfl) ?_
  refine lx_ifnonnull (tgt := 28) hx hb dX10_chanceIn_12 (by decide) (fun c_3 => ?_) (fun c_3 => ?_)
  · have hf := hf.trans (if_neg c_3)
    have hok := oif_neg hok c_3
    refine lv_aload_n hx hb dX10_chanceIn_28 rfl (lv_at hl 1 rfl) ?_
    refine xt_field C hM dX10_chanceIn_29 ?_
    refine lv_aload_n hx hb dX10_chanceIn_32 rfl (lv_at hl 2 rfl) ?_
    refine lx_aload hx hb dX10_chanceIn_33 (lv_at hl 0 rfl) ?_
    have hk_4 := And.left hok
    have hok := And.right hok
    refine toRef (xne0 hM.1 hk_4 (by decide)) ?_
    refine xg_X10_225 C hM hk_4 dX10_chanceIn_35 ?_
    refine lx_aload hx hb dX10_chanceIn_38 (lv_at hl 0 rfl) ?_
    refine toRef (xne0 hM.1 hk_4 (by decide)) ?_
    refine xg_X10_228 C hM hk_4 dX10_chanceIn_40 ?_
    have ok_5 := And.left hok
    have hok := And.right hok
    have hk_6 := And.left hok
    have hok := And.right hok
    refine cc_XM (av := [.ref p1, .int (xi σ 201 (f_X10_windOf σ x (xi σ 100 p1))), .int (xi σ 202 (f_X10_windOf σ x (xi σ 100 p1)))]) (b := (x + 9)) (N := 0) (Or.inr (fun _ => rfl)) C hE hM (k_X3_scatter l D a x e0 A σ (x + 9) p1 (xi σ 201 (f_X10_windOf σ x (xi σ 100 p1))) (xi σ 202 (f_X10_windOf σ x (xi σ 100 p1))) ok_5) cw_X10_427 (okR_of hRf hRl (Nat.le_of_ble_eq_true rfl) (Nat.le_of_ble_eq_true rfl)) (xr_at (K := 4) C hM hk_6 (by decide) rfl) rfl rfl hl.1 (Nat.le_of_ble_eq_true rfl) (Nat.zero_le _) (Nat.zero_le _) dX10_chanceIn_43 (fun H locs hM => ?_)
    exact J_46 ((f_X3_scatter σ (x + 9) p1 (xi σ 201 (f_X10_windOf σ x (xi σ 100 p1))) (xi σ 202 (f_X10_windOf σ x (xi σ 100 p1)))).2) hf hok _ _ ls hM (lv_sub hl [1, 3, 4, 5] rfl)
  · have hf := hf.trans (if_pos c_3)
    have hok := oif_pos hok c_3
    refine lv_aload_n hx hb dX10_chanceIn_15 rfl (lv_at hl 1 rfl) ?_
    refine xt_field C hM dX10_chanceIn_16 ?_
    refine lv_aload_n hx hb dX10_chanceIn_19 rfl (lv_at hl 2 rfl) ?_
    refine lv_iconst (v := 0) hx hb dX10_chanceIn_20 (by decide) ?_
    refine lv_iconst (v := 0) hx hb dX10_chanceIn_21 (by decide) ?_
    have ok_12 := And.left hok
    have hok := And.right hok
    have hk_13 := And.left hok
    have hok := And.right hok
    refine cc_XM (av := [.ref p1, .int 0, .int 0]) (b := (x + 9)) (N := 0) (Or.inr (fun _ => rfl)) C hE hM (k_X3_scatter l D a x e0 A σ (x + 9) p1 0 0 ok_12) cw_X10_427 (okR_of hRf hRl (Nat.le_of_ble_eq_true rfl) (Nat.le_of_ble_eq_true rfl)) (xr_at (K := 4) C hM hk_13 (by decide) rfl) rfl rfl hl.1 (Nat.le_of_ble_eq_true rfl) (Nat.zero_le _) (Nat.zero_le _) dX10_chanceIn_22 (fun H locs hM => ?_)
    exact J_25 ((f_X3_scatter σ (x + 9) p1 0 0).2) hf hok _ _ ls hM (lv_sub hl [1, 3, 4, 5] rfl)
def f_X10_walk_75 (σ : XS) (x : Nat) (nq : Nat) (p1 : Int32) (p2 : Int32) (p3 : Int32) (p4 : Int32) (v5_75 : Nat) (t0_75 : Nat) (σ_75 : XS) : Except Nat (Int64 × XS) := .ok ((f_X10_chanceIn (xAdd σ_75 5 t0_75) x v5_75 p1 p2 p3).1, (f_X10_chanceIn (xAdd σ_75 5 t0_75) x v5_75 p1 p2 p3).2)
def of_X10_walk_75 (σ : XS) (x : Nat) (nq : Nat) (p1 : Int32) (p2 : Int32) (p3 : Int32) (p4 : Int32) (v5_75 : Nat) (t0_75 : Nat) (σ_75 : XS) : Prop := ((xk σ_75 t0_75) = 9 ∧ ((xn σ_75 5) ≤ 100 ∧ ((∀ i, i < (xn σ_75 5) → (xk σ_75 (xe σ_75 5 i)) = 9) ∧ (of_X10_chanceIn (xAdd σ_75 5 t0_75) x v5_75 p1 p2 p3 ∧ True))))
def f_X10_walk_72 (σ : XS) (x : Nat) (nq : Nat) (p1 : Int32) (p2 : Int32) (p3 : Int32) (p4 : Int32) (v5_72 : Nat) (t0_72 : Int32) (t1_72 : Int32) (t2_72 : Int32) (t3_72 : Int32) (t4_72 : Int32) (t5_72 : Nat) (t6_72 : Nat) (σ_72 : XS) : Except Nat (Int64 × XS) := (f_X10_walk_75 σ x nq p1 p2 p3 p4 v5_72 t6_72 ((f_X8_init σ_72 t5_72 t4_72 t3_72 t2_72 t1_72 t0_72).2))
def of_X10_walk_72 (σ : XS) (x : Nat) (nq : Nat) (p1 : Int32) (p2 : Int32) (p3 : Int32) (p4 : Int32) (v5_72 : Nat) (t0_72 : Int32) (t1_72 : Int32) (t2_72 : Int32) (t3_72 : Int32) (t4_72 : Int32) (t5_72 : Nat) (t6_72 : Nat) (σ_72 : XS) : Prop := (of_X8_init σ_72 t5_72 t4_72 t3_72 t2_72 t1_72 t0_72 ∧ ((xk σ_72 t5_72) = 9 ∧ (of_X10_walk_75 σ x nq p1 p2 p3 p4 v5_72 t6_72 ((f_X8_init σ_72 t5_72 t4_72 t3_72 t2_72 t1_72 t0_72).2))))
def f_X10_walk (σ : XS) (x : Nat) (nq : Nat) (p1 : Int32) (p2 : Int32) (p3 : Int32) (p4 : Int32) : Except Nat (Int64 × XS) := (exb (f_X10_existingFireball σ x p1) (fun v9_2 => (exb (f_X10_requireCell p2 p3) (fun v9_3 => (exb (f_X10_requireRange p4 1 100) (fun v9_4 => (if (nI (xn σ 5)) < 60 then (if (f_X10_wasWalked (xNew σ 9 nq) x p1 p2 p3) = 0 then (f_X10_walk_72 σ x nq p1 p2 p3 p4 v9_2 1 p4 p3 p2 p1 nq nq (xNew σ 9 nq)) else (f_X10_walk_72 σ x nq p1 p2 p3 p4 v9_2 0 p4 p3 p2 p1 nq nq (xNew σ 9 nq))) else .error 2)))))))
def of_X10_walk (σ : XS) (x : Nat) (nq : Nat) (p1 : Int32) (p2 : Int32) (p3 : Int32) (p4 : Int32) : Prop := (of_X10_existingFireball σ x p1 ∧ (exo (f_X10_existingFireball σ x p1) (fun v9_2 => (exo (f_X10_requireCell p2 p3) (fun v9_3 => (exo (f_X10_requireRange p4 1 100) (fun v9_4 => (oif ((nI (xn σ 5)) < 60) (of_X10_wasWalked (xNew σ 9 nq) x p1 p2 p3 ∧ (oif ((f_X10_wasWalked (xNew σ 9 nq) x p1 p2 p3) = 0) (of_X10_walk_72 σ x nq p1 p2 p3 p4 v9_2 1 p4 p3 p2 p1 nq nq (xNew σ 9 nq)) (of_X10_walk_72 σ x nq p1 p2 p3 p4 v9_2 0 p4 p3 p2 p1 nq nq (xNew σ 9 nq)))) True))))))))
set_option maxHeartbeats 4000000 in
set_option maxRecDepth 100000 in
theorem k_X10_walk (l : Launch) (D : va_G) (a : Nat → ClassId) (x : Nat) (e0 : Nat) (A : Nat → Prop) (hfl : l.stackTraces = false) (σ : XS) (p1 : Int32) (p2 : Int32) (p3 : Int32) (p4 : Int32) (hok : ∀ nq, xk σ nq = 0 → of_X10_walk σ x nq p1 p2 p3 p4) : KTm l D a x e0 A yX10_walk cX10_walk 6 ((some .long)) 8 156 6 329 [.ref x, .int p1, .int p2, .int p3, .int p4] σ (fun v => some (.long v)) (fun nq => f_X10_walk σ x nq p1 p2 p3 p4) := by
  refine goUl hfl rfl (by decide +kernel) (Nat.le_of_ble_eq_true rfl) ?_
  intro p e s m args below meth c ls R Q nq hRf hRl hRc hRs hnq C hE hM hl ret thr out
  have hok := hok nq (by rw [hnq]; exact xP_fresh hM.1)
  have hl : lv_has ls 6 [(0, .ref x), (1, .int p1), (2, .int p2), (3, .int p3), (4, .int p4)] := hl
  have hx := C.1.1
  have hb := C.1.2.1
  have hts := C.1.2.2.2.2
  have hown := C.1.2.2.2.1
  have hf : (f_X10_walk σ x nq p1 p2 p3 p4) = (f_X10_walk σ x nq p1 p2 p3 p4) := rfl
  have J_75 : ∀ (v5_75 : Nat) (t0_75 : Nat) (σ_75 : XS), (f_X10_walk σ x nq p1 p2 p3 p4) = f_X10_walk_75 σ x nq p1 p2 p3 p4 v5_75 t0_75 σ_75 → of_X10_walk_75 σ x nq p1 p2 p3 p4 v5_75 t0_75 σ_75 → ∀ (H : Heap) (locs : List Loc) (ls : Array Slot), HX D a x e0 A σ_75 s.heap H locs → lv_has ls 6 [(0, .ref x), (1, .int p1), (2, .int p2), (3, .int p3), (5, .ref v5_75)] → W p l e R s m args below meth c H locs 5 29 Q (F0 m 75 ls [.ref t0_75, .ref (x + 8)]) := by
    intro v5_75 t0_75 σ_75 hf hok H locs ls hM hl
    have hk_11 := And.left hok
    have hok := And.right hok
    have ok_12 := And.left hok
    have hok := And.right hok
    have ok_13 := And.left hok
    have hok := And.right hok
    refine xl_add (j := 5) (K := 9) C hE hM (by decide) hk_11 (by decide) rfl cb_9 ok_12 ok_13 hRf hRl (Nat.le_of_ble_eq_true rfl) (Nat.le_of_ble_eq_true rfl) hl.1 (Nat.le_of_ble_eq_true rfl) (by rw [hRc]; exact Nat.le_of_ble_eq_true rfl) (by rw [hRs]; exact Nat.le_of_ble_eq_true rfl) dX10_walk_75 (fun H locs hM => ?_)
    refine lv_pop hx hb dX10_walk_80 rfl ?_
    refine lv_aload_n hx hb dX10_walk_81 rfl (lv_at hl 0 rfl) ?_
    refine lv_aload hx hb dX10_walk_82 (lv_at hl 4 rfl) ?_
    refine lv_iload_n hx hb dX10_walk_84 rfl (lv_at hl 1 rfl) ?_
    refine lv_iload_n hx hb dX10_walk_85 rfl (lv_at hl 2 rfl) ?_
    refine lv_iload_n hx hb dX10_walk_86 rfl (lv_at hl 3 rfl) ?_
    have ok_14 := And.left hok
    have hok := And.right hok
    refine cc_XM (av := [.ref v5_75, .int p1, .int p2, .int p3]) (b := x) (N := 0) (Or.inr (fun _ => rfl)) C hE hM (k_X10_chanceIn l D a x e0 A (xAdd σ_75 5 t0_75) v5_75 p1 p2 p3 ok_14) cw_X10_242 (okR_of hRf hRl (Nat.le_of_ble_eq_true rfl) (Nat.le_of_ble_eq_true rfl)) (xr_net C hM) rfl rfl hl.1 (Nat.le_of_ble_eq_true rfl) (by rw [hRc]; exact Nat.le_of_ble_eq_true rfl) (by rw [hRs]; exact Nat.le_of_ble_eq_true rfl) dX10_walk_87 (fun H locs hM => ?_)
    exact ret _ _ _ _ _ _ hM dX10_walk_90 hf
  have J_72 : ∀ (v5_72 : Nat) (t0_72 : Int32) (t1_72 : Int32) (t2_72 : Int32) (t3_72 : Int32) (t4_72 : Int32) (t5_72 : Nat) (t6_72 : Nat) (σ_72 : XS), (f_X10_walk σ x nq p1 p2 p3 p4) = f_X10_walk_72 σ x nq p1 p2 p3 p4 v5_72 t0_72 t1_72 t2_72 t3_72 t4_72 t5_72 t6_72 σ_72 → of_X10_walk_72 σ x nq p1 p2 p3 p4 v5_72 t0_72 t1_72 t2_72 t3_72 t4_72 t5_72 t6_72 σ_72 → ∀ (H : Heap) (locs : List Loc) (ls : Array Slot), HX D a x e0 A σ_72 s.heap H locs → lv_has ls 6 [(0, .ref x), (1, .int p1), (2, .int p2), (3, .int p3), (5, .ref v5_72)] → W p l e R s m args below meth c H locs 5 29 Q (F0 m 72 ls [.int t0_72, .int t1_72, .int t2_72, .int t3_72, .int t4_72, .ref t5_72, .ref t6_72, .ref (x + 8)]) := by
    intro v5_72 t0_72 t1_72 t2_72 t3_72 t4_72 t5_72 t6_72 σ_72 hf hok H locs ls hM hl
    have ok_9 := And.left hok
    have hok := And.right hok
    have hk_10 := And.left hok
    have hok := And.right hok
    refine cc_XI (av := [.int t4_72, .int t3_72, .int t2_72, .int t1_72, .int t0_72]) (b := t5_72) (N := 0) (Or.inr (fun _ => rfl)) C hE hM (k_X8_init l D a x e0 A σ_72 t5_72 t4_72 t3_72 t2_72 t1_72 t0_72 ok_9) cw_X10_239 (okR_of hRf hRl (Nat.le_of_ble_eq_true rfl) (Nat.le_of_ble_eq_true rfl)) rfl rfl hl.1 (Nat.le_of_ble_eq_true rfl) (by rw [hRc]; exact Nat.le_of_ble_eq_true rfl) (by rw [hRs]; exact Nat.le_of_ble_eq_true rfl) dX10_walk_72 (fun H locs hM => ?_)
    exact J_75 v5_72 t6_72 ((f_X8_init σ_72 t5_72 t4_72 t3_72 t2_72 t1_72 t0_72).2) hf hok _ _ ls hM (lv_sub hl [0, 1, 2, 3, 4] rfl)
  refine lv_aload_n hx hb dX10_walk_0 rfl (lv_at hl 0 rfl) ?_
  refine lv_iload_n hx hb dX10_walk_1 rfl (lv_at hl 1 rfl) ?_
  have ok_1 := And.left hok
  have hok := And.right hok
  refine cc_TV (av := [.int p1]) (b := x) C hE hM (k_X10_existingFireball l D a x e0 A hfl σ p1 ok_1) cw_X10_199 (okR_of hRf hRl (Nat.le_of_ble_eq_true rfl) (Nat.le_of_ble_eq_true rfl)) (xr_net C hM) rfl rfl hl.1 (Nat.le_of_ble_eq_true rfl) (by rw [hRc]; exact Nat.le_of_ble_eq_true rfl) (by rw [hRs]; exact Nat.le_of_ble_eq_true rfl) dX10_walk_2 (fun k9 E9 ce9 q9 H9 hF9 z1 z2 z3 z4 z5 z6 => out z1 z2 z3 z4 z5 z6 (Nat.le_of_ble_eq_true rfl) (Nat.le_of_ble_eq_true rfl) (hf.trans (exb_er hF9))) (fun v9_2 hv9_2 => ?_)
  have hf := hf.trans (exb_ok hv9_2)
  have hok := exo_ok hok hv9_2
  refine lv_astore (lv' := [(5, .ref v9_2), (0, .ref x), (1, .int p1), (2, .int p2), (3, .int p3), (4, .int p4)]) hx hb dX10_walk_5 hl (by decide) rfl (fun ls hl => ?_)
  refine lv_iload_n hx hb dX10_walk_7 rfl (lv_at hl 3 rfl) ?_
  refine lv_iload_n hx hb dX10_walk_8 rfl (lv_at hl 4 rfl) ?_
  refine cc_TS (av := [.int p2, .int p3]) C (k_X10_requireCell l D a e0 A hfl p2 p3) cw_X10_77 (okR_of hRf hRl (Nat.le_of_ble_eq_true rfl) (Nat.le_of_ble_eq_true rfl)) (fun U g mk z q => be_blind g mk z q) (fun U hU hW => EV.at hE va_S.rf hW hU) rfl rfl hl.1 (Nat.le_of_ble_eq_true rfl) (by rw [hRc]; exact Nat.le_of_ble_eq_true rfl) (by rw [hRs]; exact Nat.le_of_ble_eq_true rfl) dX10_walk_9 (fun k9 E9 ce9 q9 H9 hF9 z1 z2 z3 z4 z5 z6 => out z1 z2 z3 z4 z5 z6 (Nat.le_of_ble_eq_true rfl) (Nat.le_of_ble_eq_true rfl) (hf.trans (exb_er hF9))) (fun v9_3 hv9_3 => ?_)
  have hf := hf.trans (exb_ok hv9_3)
  have hok := exo_ok hok hv9_3
  refine lv_iload hx hb dX10_walk_12 (lv_at hl 5 rfl) ?_
  refine lv_iconst (v := 1) hx hb dX10_walk_14 (by decide) ?_
  refine lv_bipush (v := 100) hx hb dX10_walk_15 (by decide) ?_
  refine cc_TS (av := [.int p4, .int 1, .int 100]) C (k_X10_requireRange l D a e0 A hfl p4 1 100) cw_X10_81 (okR_of hRf hRl (Nat.le_of_ble_eq_true rfl) (Nat.le_of_ble_eq_true rfl)) (fun U g mk z q => be_blind g mk z q) (fun U hU hW => EV.at hE va_S.rf hW hU) rfl rfl hl.1 (Nat.le_of_ble_eq_true rfl) (by rw [hRc]; exact Nat.le_of_ble_eq_true rfl) (by rw [hRs]; exact Nat.le_of_ble_eq_true rfl) dX10_walk_17 (fun k9 E9 ce9 q9 H9 hF9 z1 z2 z3 z4 z5 z6 => out z1 z2 z3 z4 z5 z6 (Nat.le_of_ble_eq_true rfl) (Nat.le_of_ble_eq_true rfl) (hf.trans (exb_er hF9))) (fun v9_4 hv9_4 => ?_)
  have hf := hf.trans (exb_ok hv9_4)
  have hok := exo_ok hok hv9_4
  refine lv_aload_n hx hb dX10_walk_20 rfl (lv_at hl 1 rfl) ?_
  refine xt_walks C hM dX10_walk_21 ?_
  refine xl_size (j := 5) C hE hM (by decide) hRf hRl (Nat.le_of_ble_eq_true rfl) (Nat.le_of_ble_eq_true rfl) hl.1 (Nat.le_of_ble_eq_true rfl) (by rw [hRc]; exact Nat.le_of_ble_eq_true rfl) (by rw [hRs]; exact Nat.le_of_ble_eq_true rfl) dX10_walk_24 ?_
  refine lv_bipush (v := 60) hx hb dX10_walk_29 (by decide) ?_
  refine lv_icmp_lt (tgt := 44) hx hb dX10_walk_31 (by decide) (fun c_5 => ?_) (fun c_5 => ?_)
  · have hf := hf.trans (if_pos c_5)
    have hok := oif_pos hok c_5
    refine lv_aload_n hx hb dX10_walk_44 rfl (lv_at hl 1 rfl) ?_
    refine xt_walks C hM dX10_walk_45 ?_
    refine xnew_X10_233 C hE hM hnq (xP_pos hM.1) (by rw [hRc]; exact Nat.le_of_ble_eq_true rfl) (by rw [hRs]; exact Nat.le_of_ble_eq_true rfl) dX10_walk_48 (fun H locs hM => ?_)
    have hk_6 : (xk (xNew σ 9 nq) nq) = 9 := va_up_self _ _ _
    refine lv_dup hx hb dX10_walk_51 rfl ?_
    refine lv_iload_n hx hb dX10_walk_52 rfl (lv_at hl 2 rfl) ?_
    refine lv_iload_n hx hb dX10_walk_53 rfl (lv_at hl 3 rfl) ?_
    refine lv_iload_n hx hb dX10_walk_54 rfl (lv_at hl 4 rfl) ?_
    refine lv_iload hx hb dX10_walk_55 (lv_at hl 5 rfl) ?_
    refine lv_aload_n hx hb dX10_walk_57 rfl (lv_at hl 1 rfl) ?_
    refine lv_iload_n hx hb dX10_walk_58 rfl (lv_at hl 2 rfl) ?_
    refine lv_iload_n hx hb dX10_walk_59 rfl (lv_at hl 3 rfl) ?_
    refine lv_iload_n hx hb dX10_walk_60 rfl (lv_at hl 4 rfl) ?_
    have ok_7 := And.left hok
    have hok := And.right hok
    refine cc_X (av := [.int p1, .int p2, .int p3]) (b := x) C hE hM (k_X10_wasWalked l D a x e0 A (xNew σ 9 nq) p1 p2 p3 ok_7) cw_X10_235 (okR_of hRf hRl (Nat.le_of_ble_eq_true rfl) (Nat.le_of_ble_eq_true rfl)) (xr_net C hM) rfl rfl hl.1 (Nat.le_of_ble_eq_true rfl) (by rw [hRc]; exact Nat.le_of_ble_eq_true rfl) (by rw [hRs]; exact Nat.le_of_ble_eq_true rfl) dX10_walk_61 ?_
    refine lv_if_ne (tgt := 71) hx hb dX10_walk_64 (by decide) (fun c_8 => ?_) (fun c_8 => ?_)
    · have hf := hf.trans (if_neg c_8)
      have hok := oif_neg hok c_8
      refine lv_iconst (v := 0) hx hb dX10_walk_71 (by decide) ?_
      exact J_72 v9_2 0 p4 p3 p2 p1 nq nq (xNew σ 9 nq) hf hok _ _ ls hM (lv_sub hl [1, 2, 3, 4, 0] rfl)
    · have hf := hf.trans (if_pos c_8)
      have hok := oif_pos hok c_8
      refine lv_iconst (v := 1) hx hb dX10_walk_67 (by decide) ?_
      refine lv_goto (tgt := 72) hx hb dX10_walk_68 (by decide) ?_
      exact J_72 v9_2 1 p4 p3 p2 p1 nq nq (xNew σ 9 nq) hf hok _ _ ls hM (lv_sub hl [1, 2, 3, 4, 0] rfl)
  · have hf := hf.trans (if_neg c_5)
    have hok := oif_neg hok c_5
    obtain ⟨sa, hsr⟩ := hE.2.2.1 _ str_231
    exact thr (k := 2) thr_89 hsr (hl.1.trans C.1.2.2.1.symm) dX10_walk_34 dX10_walk_37 (Or.inl ⟨dX10_walk_38, dX10_walk_40, dX10_walk_43⟩) (by rw [hRf]; exact Nat.le_of_ble_eq_true rfl) (by rw [hRl]; exact Nat.le_of_ble_eq_true rfl) (Nat.le_of_ble_eq_true rfl) (Nat.le_of_ble_eq_true rfl) hf
def f_X10_chance (σ : XS) (x : Nat) (p1 : Int32) (p2 : Int32) (p3 : Int32) : Except Nat (Int64 × XS) := (exb (f_X10_existingFireball σ x p1) (fun v9_2 => (exb (f_X10_requireCell p2 p3) (fun v9_3 => .ok ((f_X10_chanceIn σ x v9_2 p1 p2 p3).1, (f_X10_chanceIn σ x v9_2 p1 p2 p3).2)))))
def of_X10_chance (σ : XS) (x : Nat) (p1 : Int32) (p2 : Int32) (p3 : Int32) : Prop := (of_X10_existingFireball σ x p1 ∧ (exo (f_X10_existingFireball σ x p1) (fun v9_2 => (exo (f_X10_requireCell p2 p3) (fun v9_3 => (of_X10_chanceIn σ x v9_2 p1 p2 p3 ∧ True))))))
set_option maxHeartbeats 4000000 in
set_option maxRecDepth 100000 in
theorem k_X10_chance (l : Launch) (D : va_G) (a : Nat → ClassId) (x : Nat) (e0 : Nat) (A : Nat → Prop) (hfl : l.stackTraces = false) (σ : XS) (p1 : Int32) (p2 : Int32) (p3 : Int32) (hok : of_X10_chance σ x p1 p2 p3) : KTm l D a x e0 A yX10_chance cX10_chance 5 ((some .long)) 8 145 3 18 [.ref x, .int p1, .int p2, .int p3] σ (fun v => some (.long v)) (fun _ => f_X10_chance σ x p1 p2 p3) := by
  refine goUl hfl rfl (by decide +kernel) (Nat.le_of_ble_eq_true rfl) ?_
  intro p e s m args below meth c ls R Q nq hRf hRl hRc hRs hnq C hE hM hl ret thr out
  have hl : lv_has ls 5 [(0, .ref x), (1, .int p1), (2, .int p2), (3, .int p3)] := hl
  have hx := C.1.1
  have hb := C.1.2.1
  have hts := C.1.2.2.2.2
  have hown := C.1.2.2.2.1
  have hf : (f_X10_chance σ x p1 p2 p3) = (f_X10_chance σ x p1 p2 p3) := rfl
  refine lv_aload_n hx hb dX10_chance_0 rfl (lv_at hl 0 rfl) ?_
  refine lv_iload_n hx hb dX10_chance_1 rfl (lv_at hl 1 rfl) ?_
  have ok_1 := And.left hok
  have hok := And.right hok
  refine cc_TV (av := [.int p1]) (b := x) C hE hM (k_X10_existingFireball l D a x e0 A hfl σ p1 ok_1) cw_X10_199 (okR_of hRf hRl (Nat.le_of_ble_eq_true rfl) (Nat.le_of_ble_eq_true rfl)) (xr_net C hM) rfl rfl hl.1 (Nat.le_of_ble_eq_true rfl) (by rw [hRc]; exact Nat.le_of_ble_eq_true rfl) (by rw [hRs]; exact Nat.le_of_ble_eq_true rfl) dX10_chance_2 (fun k9 E9 ce9 q9 H9 hF9 z1 z2 z3 z4 z5 z6 => out z1 z2 z3 z4 z5 z6 (Nat.le_of_ble_eq_true rfl) (Nat.le_of_ble_eq_true rfl) (hf.trans (exb_er hF9))) (fun v9_2 hv9_2 => ?_)
  have hf := hf.trans (exb_ok hv9_2)
  have hok := exo_ok hok hv9_2
  refine lv_astore (lv' := [(4, .ref v9_2), (0, .ref x), (1, .int p1), (2, .int p2), (3, .int p3)]) hx hb dX10_chance_5 hl (by decide) rfl (fun ls hl => ?_)
  refine lv_iload_n hx hb dX10_chance_7 rfl (lv_at hl 3 rfl) ?_
  refine lv_iload_n hx hb dX10_chance_8 rfl (lv_at hl 4 rfl) ?_
  refine cc_TS (av := [.int p2, .int p3]) C (k_X10_requireCell l D a e0 A hfl p2 p3) cw_X10_77 (okR_of hRf hRl (Nat.le_of_ble_eq_true rfl) (Nat.le_of_ble_eq_true rfl)) (fun U g mk z q => be_blind g mk z q) (fun U hU hW => EV.at hE va_S.rf hW hU) rfl rfl hl.1 (Nat.le_of_ble_eq_true rfl) (by rw [hRc]; exact Nat.le_of_ble_eq_true rfl) (by rw [hRs]; exact Nat.le_of_ble_eq_true rfl) dX10_chance_9 (fun k9 E9 ce9 q9 H9 hF9 z1 z2 z3 z4 z5 z6 => out z1 z2 z3 z4 z5 z6 (Nat.le_of_ble_eq_true rfl) (Nat.le_of_ble_eq_true rfl) (hf.trans (exb_er hF9))) (fun v9_3 hv9_3 => ?_)
  have hf := hf.trans (exb_ok hv9_3)
  have hok := exo_ok hok hv9_3
  refine lv_aload_n hx hb dX10_chance_12 rfl (lv_at hl 1 rfl) ?_
  refine lv_aload hx hb dX10_chance_13 (lv_at hl 0 rfl) ?_
  refine lv_iload_n hx hb dX10_chance_15 rfl (lv_at hl 2 rfl) ?_
  refine lv_iload_n hx hb dX10_chance_16 rfl (lv_at hl 3 rfl) ?_
  refine lv_iload_n hx hb dX10_chance_17 rfl (lv_at hl 4 rfl) ?_
  have ok_4 := And.left hok
  have hok := And.right hok
  refine cc_XM (av := [.ref v9_2, .int p1, .int p2, .int p3]) (b := x) (N := 0) (Or.inr (fun _ => rfl)) C hE hM (k_X10_chanceIn l D a x e0 A σ v9_2 p1 p2 p3 ok_4) cw_X10_242 (okR_of hRf hRl (Nat.le_of_ble_eq_true rfl) (Nat.le_of_ble_eq_true rfl)) (xr_net C hM) rfl rfl hl.1 (Nat.le_of_ble_eq_true rfl) (by rw [hRc]; exact Nat.le_of_ble_eq_true rfl) (by rw [hRs]; exact Nat.le_of_ble_eq_true rfl) dX10_chance_18 (fun H locs hM => ?_)
  exact ret _ _ _ _ _ _ hM dX10_chance_21 hf
def f_X10_lawIn (σ : XS) (x : Nat) (p1 : Int32) : Int32 := (if p1 < 0 then 0 else (if 4 ≤ p1 then 0 else (xi σ 240 (ix p1))))
def of_X10_lawIn (σ : XS) (x : Nat) (p1 : Int32) : Prop := (oif (p1 < 0) True (oif (4 ≤ p1) True (vp_in p1 4 ∧ True)))
set_option maxHeartbeats 4000000 in
set_option maxRecDepth 100000 in
theorem k_X10_lawIn (l : Launch) (D : va_G) (a : Nat → ClassId) (x : Nat) (e0 : Nat) (A : Nat → Prop) (σ : XS) (p1 : Int32) (hok : of_X10_lawIn σ x p1) : K0 l yX10_lawIn cX10_lawIn 2 ((some .int)) 0 0 [.ref x, .int p1] (BX D a x e0 A σ) (.int (f_X10_lawIn σ x p1)) := by
  refine go0i (D := D) (a := a) (by decide +kernel) (fun _ h => h.1.1) (Nat.le_of_ble_eq_true rfl) ?_
  intro p e s m args below meth c ls R Q hRf hRl C hl hB
  obtain ⟨hB, ret⟩ := hB
  have hE := hB.1
  have hM : HX D a x e0 A σ s.heap s.heap [] := ⟨hB.2, va_S.rf⟩
  have hl : lv_has ls 2 [(0, .ref x), (1, .int p1)] := hl
  have hx := C.1.1
  have hb := C.1.2.1
  have hts := C.1.2.2.2.2
  have hown := C.1.2.2.2.1
  have hf : (f_X10_lawIn σ x p1) = (f_X10_lawIn σ x p1) := rfl
  refine lv_iload_n hx hb dX10_lawIn_0 rfl (lv_at hl 1 rfl) ?_
  refine lv_if_lt (tgt := 22) hx hb dX10_lawIn_1 (by decide) (fun c_1 => ?_) (fun c_1 => ?_)
  · have hf := hf.trans (if_pos c_1)
    have hok := oif_pos hok c_1
    refine lv_iconst (v := 0) hx hb dX10_lawIn_22 (by decide) ?_
    exact ret _ _ _ dX10_lawIn_23 hf
  · have hf := hf.trans (if_neg c_1)
    have hok := oif_neg hok c_1
    refine lv_iload_n hx hb dX10_lawIn_4 rfl (lv_at hl 1 rfl) ?_
    refine lv_aload_n hx hb dX10_lawIn_5 rfl (lv_at hl 0 rfl) ?_
    refine xt_laws C hM dX10_lawIn_6 ?_
    refine xlen_12 C hM dX10_lawIn_9 ?_
    refine lv_icmp_ge (tgt := 22) hx hb dX10_lawIn_10 (by decide) (fun c_2 => ?_) (fun c_2 => ?_)
    · have hf := hf.trans (if_pos c_2)
      have hok := oif_pos hok c_2
      refine lv_iconst (v := 0) hx hb dX10_lawIn_22 (by decide) ?_
      exact ret _ _ _ dX10_lawIn_23 hf
    · have hf := hf.trans (if_neg c_2)
      have hok := oif_neg hok c_2
      refine lv_aload_n hx hb dX10_lawIn_13 rfl (lv_at hl 0 rfl) ?_
      refine xt_laws C hM dX10_lawIn_14 ?_
      refine lv_iload_n hx hb dX10_lawIn_17 rfl (lv_at hl 1 rfl) ?_
      have ok_3 := And.left hok
      have hok := And.right hok
      refine xald_12 C hM ok_3 dX10_lawIn_18 ?_
      refine lv_goto (tgt := 23) hx hb dX10_lawIn_19 (by decide) ?_
      exact ret _ _ _ dX10_lawIn_23 hf
def f_X10_find_101 (σ : XS) (x : Nat) (nq : Nat) (p1 : Int32) (p2 : Int32) (p3 : Int32) (p4 : Int32) (p5 : Int32) (t0_101 : Nat) (σ_101 : XS) : Except Nat (Int32 × XS) := .ok ((xi σ_101 160 t0_101), (xAdd σ_101 6 t0_101))
def of_X10_find_101 (σ : XS) (x : Nat) (nq : Nat) (p1 : Int32) (p2 : Int32) (p3 : Int32) (p4 : Int32) (p5 : Int32) (t0_101 : Nat) (σ_101 : XS) : Prop := ((xk σ_101 t0_101) = 8 ∧ ((xn σ_101 6) ≤ 100 ∧ ((∀ i, i < (xn σ_101 6) → (xk σ_101 (xe σ_101 6 i)) = 8) ∧ True)))
def f_X10_find_75 (σ : XS) (x : Nat) (nq : Nat) (p1 : Int32) (p2 : Int32) (p3 : Int32) (p4 : Int32) (p5 : Int32) (t0_75 : Int32) : Except Nat (Int32 × XS) := (f_X10_find_101 σ x nq p1 p2 p3 p4 p5 nq ((f_X7_init (xNew σ 8 nq) nq (nI (xn σ 6)) p1 p2 p3 p4 t0_75 0).2))
def of_X10_find_75 (σ : XS) (x : Nat) (nq : Nat) (p1 : Int32) (p2 : Int32) (p3 : Int32) (p4 : Int32) (p5 : Int32) (t0_75 : Int32) : Prop := (of_X7_init (xNew σ 8 nq) nq (nI (xn σ 6)) p1 p2 p3 p4 t0_75 0 ∧ (of_X10_find_101 σ x nq p1 p2 p3 p4 p5 nq ((f_X7_init (xNew σ 8 nq) nq (nI (xn σ 6)) p1 p2 p3 p4 t0_75 0).2)))
def f_X10_find (σ : XS) (x : Nat) (nq : Nat) (p1 : Int32) (p2 : Int32) (p3 : Int32) (p4 : Int32) (p5 : Int32) : Except Nat (Int32 × XS) := (exb (f_X10_requireCell p1 p2) (fun v9_1 => (exb (f_X10_requireNight p3) (fun v9_2 => (exb (f_X10_requireRange p4 1 1000000) (fun v9_3 => (exb (f_X10_requireRange p5 0 5) (fun v9_4 => (if (nI (xn σ 6)) < 40 then (if (f_X10_lawIn σ x (f_X10_landOf p1 p2)) = 1 then (f_X10_find_75 σ x nq p1 p2 p3 p4 p5 (10 + (f_X10_landOf p1 p2))) else (f_X10_find_75 σ x nq p1 p2 p3 p4 p5 p5)) else .error 2)))))))))
def of_X10_find (σ : XS) (x : Nat) (nq : Nat) (p1 : Int32) (p2 : Int32) (p3 : Int32) (p4 : Int32) (p5 : Int32) : Prop := (exo (f_X10_requireCell p1 p2) (fun v9_1 => (exo (f_X10_requireNight p3) (fun v9_2 => (exo (f_X10_requireRange p4 1 1000000) (fun v9_3 => (exo (f_X10_requireRange p5 0 5) (fun v9_4 => (oif ((nI (xn σ 6)) < 40) (of_X10_lawIn σ x (f_X10_landOf p1 p2) ∧ (oif ((f_X10_lawIn σ x (f_X10_landOf p1 p2)) = 1) (of_X10_find_75 σ x nq p1 p2 p3 p4 p5 (10 + (f_X10_landOf p1 p2))) (of_X10_find_75 σ x nq p1 p2 p3 p4 p5 p5))) True)))))))))
set_option maxHeartbeats 4000000 in
set_option maxRecDepth 100000 in
theorem k_X10_find (l : Launch) (D : va_G) (a : Nat → ClassId) (x : Nat) (e0 : Nat) (A : Nat → Prop) (hfl : l.stackTraces = false) (σ : XS) (p1 : Int32) (p2 : Int32) (p3 : Int32) (p4 : Int32) (p5 : Int32) (hok : ∀ nq, xk σ nq = 0 → of_X10_find σ x nq p1 p2 p3 p4 p5) : KTm l D a x e0 A yX10_find cX10_find 9 ((some .int)) 8 156 7 346 [.ref x, .int p1, .int p2, .int p3, .int p4, .int p5] σ (fun v => some (.int v)) (fun nq => f_X10_find σ x nq p1 p2 p3 p4 p5) := by
  refine goUi hfl rfl (by decide +kernel) (Nat.le_of_ble_eq_true rfl) ?_
  intro p e s m args below meth c ls R Q nq hRf hRl hRc hRs hnq C hE hM hl ret thr out
  have hok := hok nq (by rw [hnq]; exact xP_fresh hM.1)
  have hl : lv_has ls 9 [(0, .ref x), (1, .int p1), (2, .int p2), (3, .int p3), (4, .int p4), (5, .int p5)] := hl
  have hx := C.1.1
  have hb := C.1.2.1
  have hts := C.1.2.2.2.2
  have hown := C.1.2.2.2.1
  have hf : (f_X10_find σ x nq p1 p2 p3 p4 p5) = (f_X10_find σ x nq p1 p2 p3 p4 p5) := rfl
  have J_101 : ∀ (t0_101 : Nat) (σ_101 : XS), (f_X10_find σ x nq p1 p2 p3 p4 p5) = f_X10_find_101 σ x nq p1 p2 p3 p4 p5 t0_101 σ_101 → of_X10_find_101 σ x nq p1 p2 p3 p4 p5 t0_101 σ_101 → ∀ (H : Heap) (locs : List Loc) (ls : Array Slot), HX D a x e0 A σ_101 s.heap H locs → lv_has ls 9 [(0, .ref x)] → W p l e R s m args below meth c H locs 6 46 Q (F0 m 101 ls [.ref t0_101]) := by
    intro t0_101 σ_101 hf hok H locs ls hM hl
    refine lv_astore (lv' := [(8, .ref t0_101), (0, .ref x)]) hx hb dX10_find_101 hl (by decide) rfl (fun ls hl => ?_)
    refine lv_aload_n hx hb dX10_find_103 rfl (lv_at hl 1 rfl) ?_
    refine xt_stones C hM dX10_find_104 ?_
    refine lv_aload hx hb dX10_find_107 (lv_at hl 0 rfl) ?_
    have hk_10 := And.left hok
    have hok := And.right hok
    have ok_11 := And.left hok
    have hok := And.right hok
    have ok_12 := And.left hok
    have hok := And.right hok
    refine xl_add (j := 6) (K := 8) C hE hM (by decide) hk_10 (by decide) rfl cb_8 ok_11 ok_12 hRf hRl (Nat.le_of_ble_eq_true rfl) (Nat.le_of_ble_eq_true rfl) hl.1 (Nat.le_of_ble_eq_true rfl) (by rw [hRc]; exact Nat.le_of_ble_eq_true rfl) (by rw [hRs]; exact Nat.le_of_ble_eq_true rfl) dX10_find_109 (fun H locs hM => ?_)
    refine lv_pop hx hb dX10_find_114 rfl ?_
    refine lv_aload hx hb dX10_find_115 (lv_at hl 0 rfl) ?_
    refine xg_X10_262 C hM hk_10 dX10_find_117 ?_
    exact ret _ _ _ _ _ _ hM dX10_find_120 hf
  have J_75 : ∀ (t0_75 : Int32), (f_X10_find σ x nq p1 p2 p3 p4 p5) = f_X10_find_75 σ x nq p1 p2 p3 p4 p5 t0_75 → of_X10_find_75 σ x nq p1 p2 p3 p4 p5 t0_75 → ∀ (ls : Array Slot), lv_has ls 9 [(0, .ref x), (1, .int p1), (2, .int p2), (3, .int p3), (4, .int p4)] → W p l e R s m args below meth c s.heap [] 5 30 Q (F0 m 75 ls [.int t0_75]) := by
    intro t0_75 hf hok ls hl
    refine lv_istore (lv' := [(7, .int t0_75), (0, .ref x), (1, .int p1), (2, .int p2), (3, .int p3), (4, .int p4)]) hx hb dX10_find_75 hl (by decide) rfl (fun ls hl => ?_)
    refine xnew_X10_257 C hE hM hnq (xP_pos hM.1) (by rw [hRc]; exact Nat.le_of_ble_eq_true rfl) (by rw [hRs]; exact Nat.le_of_ble_eq_true rfl) dX10_find_77 (fun H locs hM => ?_)
    have hk_8 : (xk (xNew σ 8 nq) nq) = 8 := va_up_self _ _ _
    refine lv_dup hx hb dX10_find_80 rfl ?_
    refine lv_aload_n hx hb dX10_find_81 rfl (lv_at hl 1 rfl) ?_
    refine xt_stones C hM dX10_find_82 ?_
    refine xl_size (j := 6) C hE hM (by decide) hRf hRl (Nat.le_of_ble_eq_true rfl) (Nat.le_of_ble_eq_true rfl) hl.1 (Nat.le_of_ble_eq_true rfl) (by rw [hRc]; exact Nat.le_of_ble_eq_true rfl) (by rw [hRs]; exact Nat.le_of_ble_eq_true rfl) dX10_find_85 ?_
    refine lv_iload_n hx hb dX10_find_90 rfl (lv_at hl 2 rfl) ?_
    refine lv_iload_n hx hb dX10_find_91 rfl (lv_at hl 3 rfl) ?_
    refine lv_iload_n hx hb dX10_find_92 rfl (lv_at hl 4 rfl) ?_
    refine lv_iload hx hb dX10_find_93 (lv_at hl 5 rfl) ?_
    refine lv_iload hx hb dX10_find_95 (lv_at hl 0 rfl) ?_
    refine lx_null hx hb dX10_find_97 ?_
    have ok_9 := And.left hok
    have hok := And.right hok
    refine cc_XI (av := [.int (nI (xn σ 6)), .int p1, .int p2, .int p3, .int p4, .int t0_75, rv 0]) (b := nq) (N := 0) (Or.inr (fun _ => rfl)) C hE hM (k_X7_init l D a x e0 A (xNew σ 8 nq) nq (nI (xn σ 6)) p1 p2 p3 p4 t0_75 0 ok_9) cw_X10_259 (okR_of hRf hRl (Nat.le_of_ble_eq_true rfl) (Nat.le_of_ble_eq_true rfl)) rfl rfl hl.1 (Nat.le_of_ble_eq_true rfl) (by rw [hRc]; exact Nat.le_of_ble_eq_true rfl) (by rw [hRs]; exact Nat.le_of_ble_eq_true rfl) dX10_find_98 (fun H locs hM => ?_)
    exact J_101 nq ((f_X7_init (xNew σ 8 nq) nq (nI (xn σ 6)) p1 p2 p3 p4 t0_75 0).2) hf hok _ _ ls hM (lv_sub hl [1] rfl)
  refine lv_iload_n hx hb dX10_find_0 rfl (lv_at hl 1 rfl) ?_
  refine lv_iload_n hx hb dX10_find_1 rfl (lv_at hl 2 rfl) ?_
  refine cc_TS (av := [.int p1, .int p2]) C (k_X10_requireCell l D a e0 A hfl p1 p2) cw_X10_77 (okR_of hRf hRl (Nat.le_of_ble_eq_true rfl) (Nat.le_of_ble_eq_true rfl)) (fun U g mk z q => be_blind g mk z q) (fun U hU hW => EV.at hE va_S.rf hW hU) rfl rfl hl.1 (Nat.le_of_ble_eq_true rfl) (by rw [hRc]; exact Nat.le_of_ble_eq_true rfl) (by rw [hRs]; exact Nat.le_of_ble_eq_true rfl) dX10_find_2 (fun k9 E9 ce9 q9 H9 hF9 z1 z2 z3 z4 z5 z6 => out z1 z2 z3 z4 z5 z6 (Nat.le_of_ble_eq_true rfl) (Nat.le_of_ble_eq_true rfl) (hf.trans (exb_er hF9))) (fun v9_1 hv9_1 => ?_)
  have hf := hf.trans (exb_ok hv9_1)
  have hok := exo_ok hok hv9_1
  refine lv_iload_n hx hb dX10_find_5 rfl (lv_at hl 3 rfl) ?_
  refine cc_TS (av := [.int p3]) C (k_X10_requireNight l D a e0 A hfl p3) cw_X10_111 (okR_of hRf hRl (Nat.le_of_ble_eq_true rfl) (Nat.le_of_ble_eq_true rfl)) (fun U g mk z q => be_blind g mk z q) (fun U hU hW => EV.at hE va_S.rf hW hU) rfl rfl hl.1 (Nat.le_of_ble_eq_true rfl) (by rw [hRc]; exact Nat.le_of_ble_eq_true rfl) (by rw [hRs]; exact Nat.le_of_ble_eq_true rfl) dX10_find_6 (fun k9 E9 ce9 q9 H9 hF9 z1 z2 z3 z4 z5 z6 => out z1 z2 z3 z4 z5 z6 (Nat.le_of_ble_eq_true rfl) (Nat.le_of_ble_eq_true rfl) (hf.trans (exb_er hF9))) (fun v9_2 hv9_2 => ?_)
  have hf := hf.trans (exb_ok hv9_2)
  have hok := exo_ok hok hv9_2
  refine lv_iload hx hb dX10_find_9 (lv_at hl 4 rfl) ?_
  refine lv_iconst (v := 1) hx hb dX10_find_11 (by decide) ?_
  refine lv_ldc (v := 1000000) hx hb hown (hts _ q_752) dX10_find_12 ?_
  refine cc_TS (av := [.int p4, .int 1, .int 1000000]) C (k_X10_requireRange l D a e0 A hfl p4 1 1000000) cw_X10_81 (okR_of hRf hRl (Nat.le_of_ble_eq_true rfl) (Nat.le_of_ble_eq_true rfl)) (fun U g mk z q => be_blind g mk z q) (fun U hU hW => EV.at hE va_S.rf hW hU) rfl rfl hl.1 (Nat.le_of_ble_eq_true rfl) (by rw [hRc]; exact Nat.le_of_ble_eq_true rfl) (by rw [hRs]; exact Nat.le_of_ble_eq_true rfl) dX10_find_14 (fun k9 E9 ce9 q9 H9 hF9 z1 z2 z3 z4 z5 z6 => out z1 z2 z3 z4 z5 z6 (Nat.le_of_ble_eq_true rfl) (Nat.le_of_ble_eq_true rfl) (hf.trans (exb_er hF9))) (fun v9_3 hv9_3 => ?_)
  have hf := hf.trans (exb_ok hv9_3)
  have hok := exo_ok hok hv9_3
  refine lv_iload hx hb dX10_find_17 (lv_at hl 5 rfl) ?_
  refine lv_iconst (v := 0) hx hb dX10_find_19 (by decide) ?_
  refine lv_iconst (v := 5) hx hb dX10_find_20 (by decide) ?_
  refine cc_TS (av := [.int p5, .int 0, .int 5]) C (k_X10_requireRange l D a e0 A hfl p5 0 5) cw_X10_81 (okR_of hRf hRl (Nat.le_of_ble_eq_true rfl) (Nat.le_of_ble_eq_true rfl)) (fun U g mk z q => be_blind g mk z q) (fun U hU hW => EV.at hE va_S.rf hW hU) rfl rfl hl.1 (Nat.le_of_ble_eq_true rfl) (by rw [hRc]; exact Nat.le_of_ble_eq_true rfl) (by rw [hRs]; exact Nat.le_of_ble_eq_true rfl) dX10_find_21 (fun k9 E9 ce9 q9 H9 hF9 z1 z2 z3 z4 z5 z6 => out z1 z2 z3 z4 z5 z6 (Nat.le_of_ble_eq_true rfl) (Nat.le_of_ble_eq_true rfl) (hf.trans (exb_er hF9))) (fun v9_4 hv9_4 => ?_)
  have hf := hf.trans (exb_ok hv9_4)
  have hok := exo_ok hok hv9_4
  refine lv_aload_n hx hb dX10_find_24 rfl (lv_at hl 0 rfl) ?_
  refine xt_stones C hM dX10_find_25 ?_
  refine xl_size (j := 6) C hE hM (by decide) hRf hRl (Nat.le_of_ble_eq_true rfl) (Nat.le_of_ble_eq_true rfl) hl.1 (Nat.le_of_ble_eq_true rfl) (by rw [hRc]; exact Nat.le_of_ble_eq_true rfl) (by rw [hRs]; exact Nat.le_of_ble_eq_true rfl) dX10_find_28 ?_
  refine lv_bipush (v := 40) hx hb dX10_find_33 (by decide) ?_
  refine lv_icmp_lt (tgt := 48) hx hb dX10_find_35 (by decide) (fun c_5 => ?_) (fun c_5 => ?_)
  · have hf := hf.trans (if_pos c_5)
    have hok := oif_pos hok c_5
    refine lv_iload_n hx hb dX10_find_48 rfl (lv_at hl 1 rfl) ?_
    refine lv_iload_n hx hb dX10_find_49 rfl (lv_at hl 2 rfl) ?_
    refine cc_S (av := [.int p1, .int p2]) C (k_X10_landOf l D a p1 p2) cw_X10_249 (okR_of hRf hRl (Nat.le_of_ble_eq_true rfl) (Nat.le_of_ble_eq_true rfl)) rfl rfl hl.1 (Nat.le_of_ble_eq_true rfl) (by rw [hRc]; exact Nat.le_of_ble_eq_true rfl) (by rw [hRs]; exact Nat.le_of_ble_eq_true rfl) dX10_find_50 ?_
    refine lv_istore (lv' := [(6, .int (f_X10_landOf p1 p2)), (0, .ref x), (1, .int p1), (2, .int p2), (3, .int p3), (4, .int p4), (5, .int p5)]) hx hb dX10_find_53 hl (by decide) rfl (fun ls hl => ?_)
    refine lv_aload_n hx hb dX10_find_55 rfl (lv_at hl 1 rfl) ?_
    refine lv_iload hx hb dX10_find_56 (lv_at hl 0 rfl) ?_
    have ok_6 := And.left hok
    have hok := And.right hok
    refine cc_X (av := [.int (f_X10_landOf p1 p2)]) (b := x) C hE hM (k_X10_lawIn l D a x e0 A σ (f_X10_landOf p1 p2) ok_6) cw_X10_253 (okR_of hRf hRl (Nat.le_of_ble_eq_true rfl) (Nat.le_of_ble_eq_true rfl)) (xr_net C hM) rfl rfl hl.1 (Nat.le_of_ble_eq_true rfl) (by rw [hRc]; exact Nat.le_of_ble_eq_true rfl) (by rw [hRs]; exact Nat.le_of_ble_eq_true rfl) dX10_find_58 ?_
    refine lv_iconst (v := 1) hx hb dX10_find_61 (by decide) ?_
    refine lv_icmp_ne (tgt := 73) hx hb dX10_find_62 (by decide) (fun c_7 => ?_) (fun c_7 => ?_)
    · have hf := hf.trans (if_neg c_7)
      have hok := oif_neg hok c_7
      refine lv_iload hx hb dX10_find_73 (lv_at hl 6 rfl) ?_
      exact J_75 p5 hf hok ls (lv_sub hl [1, 2, 3, 4, 5] rfl)
    · have hf := hf.trans (if_pos c_7)
      have hok := oif_pos hok c_7
      refine lv_bipush (v := 10) hx hb dX10_find_65 (by decide) ?_
      refine lv_iload hx hb dX10_find_67 (lv_at hl 0 rfl) ?_
      refine lv_iadd hx hb dX10_find_69 ?_
      refine lv_goto (tgt := 75) hx hb dX10_find_70 (by decide) ?_
      exact J_75 (10 + (f_X10_landOf p1 p2)) hf hok ls (lv_sub hl [1, 2, 3, 4, 5] rfl)
  · have hf := hf.trans (if_neg c_5)
    have hok := oif_neg hok c_5
    obtain ⟨sa, hsr⟩ := hE.2.2.1 _ str_247
    exact thr (k := 2) thr_89 hsr (hl.1.trans C.1.2.2.1.symm) dX10_find_38 dX10_find_41 (Or.inl ⟨dX10_find_42, dX10_find_44, dX10_find_47⟩) (by rw [hRf]; exact Nat.le_of_ble_eq_true rfl) (by rw [hRl]; exact Nat.le_of_ble_eq_true rfl) (Nat.le_of_ble_eq_true rfl) (Nat.le_of_ble_eq_true rfl) hf
def f_X10_existingStone_17 (σ : XS) (x : Nat) (p1 : Int32) : Except Nat (Nat) := .error 3
def f_X10_existingStone (σ : XS) (x : Nat) (p1 : Int32) : Except Nat (Nat) := (if p1 < 0 then (f_X10_existingStone_17 σ x p1) else (if p1 < (nI (xn σ 6)) then .ok (xe σ 6 (ix p1)) else (f_X10_existingStone_17 σ x p1)))
def of_X10_existingStone (σ : XS) (x : Nat) (p1 : Int32) : Prop := (oif (p1 < 0) True (oif (p1 < (nI (xn σ 6))) (vp_in p1 (xn σ 6) ∧ ((xk σ (xe σ 6 (ix p1))) = 8 ∧ True)) True))
set_option maxHeartbeats 4000000 in
set_option maxRecDepth 100000 in
theorem k_X10_existingStone (l : Launch) (D : va_G) (a : Nat → ClassId) (x : Nat) (e0 : Nat) (A : Nat → Prop) (hfl : l.stackTraces = false) (σ : XS) (p1 : Int32) (hok : of_X10_existingStone σ x p1) : KT0 l yX10_existingStone cX10_existingStone 2 ((some (.object "FireNet$Stone"))) 6 92 1 6 [.ref x, .int p1] (BX D a x e0 A σ) (fun v => some (.ref v)) (f_X10_existingStone σ x p1) := by
  refine goTa (D := D) (a := a) (e0 := e0) (A := A) (fun _ h => h.1) hfl rfl (by decide +kernel) (Nat.le_of_ble_eq_true rfl) ?_
  intro p e s m args below meth c ls R Q hRf hRl hRc hRs C hB hl ret thr out
  have hE := hB.1
  have hM : HX D a x e0 A σ s.heap s.heap [] := ⟨hB.2, va_S.rf⟩
  have hl : lv_has ls 2 [(0, .ref x), (1, .int p1)] := hl
  have hx := C.1.1
  have hb := C.1.2.1
  have hts := C.1.2.2.2.2
  have hown := C.1.2.2.2.1
  have hf : (f_X10_existingStone σ x p1) = (f_X10_existingStone σ x p1) := rfl
  have J_17 : (f_X10_existingStone σ x p1) = f_X10_existingStone_17 σ x p1 → ∀ (ls : Array Slot), lv_has ls 2 [] → W p l e R s m args below meth c s.heap [] 0 0 Q (F0 m 17 ls []) := by
    intro hf ls hl
    obtain ⟨sa, hsr⟩ := hE.2.2.1 _ str_370
    exact thr (k := 3) thr_358 hsr (hl.1.trans C.1.2.2.1.symm) dX10_existingStone_17 dX10_existingStone_20 (Or.inr ⟨dX10_existingStone_21, dX10_existingStone_24, dX10_existingStone_27⟩) (by rw [hRf]; exact Nat.le_of_ble_eq_true rfl) (by rw [hRl]; exact Nat.le_of_ble_eq_true rfl) (Nat.le_of_ble_eq_true rfl) (Nat.le_of_ble_eq_true rfl) hf
  refine lv_iload_n hx hb dX10_existingStone_0 rfl (lv_at hl 1 rfl) ?_
  refine lv_if_lt (tgt := 17) hx hb dX10_existingStone_1 (by decide) (fun c_1 => ?_) (fun c_1 => ?_)
  · have hf := hf.trans (if_pos c_1)
    have hok := oif_pos hok c_1
    exact J_17 hf ls (lv_sub hl [] rfl)
  · have hf := hf.trans (if_neg c_1)
    have hok := oif_neg hok c_1
    refine lv_iload_n hx hb dX10_existingStone_4 rfl (lv_at hl 1 rfl) ?_
    refine lv_aload_n hx hb dX10_existingStone_5 rfl (lv_at hl 0 rfl) ?_
    refine xt_stones C hM dX10_existingStone_6 ?_
    refine xl_size (j := 6) C hE hM (by decide) hRf hRl (Nat.le_of_ble_eq_true rfl) (Nat.le_of_ble_eq_true rfl) hl.1 (Nat.le_of_ble_eq_true rfl) (by rw [hRc]; exact Nat.le_of_ble_eq_true rfl) (by rw [hRs]; exact Nat.le_of_ble_eq_true rfl) dX10_existingStone_9 ?_
    refine lv_icmp_lt (tgt := 28) hx hb dX10_existingStone_14 (by decide) (fun c_2 => ?_) (fun c_2 => ?_)
    · have hf := hf.trans (if_pos c_2)
      have hok := oif_pos hok c_2
      refine lv_aload_n hx hb dX10_existingStone_28 rfl (lv_at hl 0 rfl) ?_
      refine xt_stones C hM dX10_existingStone_29 ?_
      refine lv_iload_n hx hb dX10_existingStone_32 rfl (lv_at hl 1 rfl) ?_
      have ok_3 := And.left hok
      have hok := And.right hok
      refine xl_get (j := 6) C hE hM (by decide) ok_3 hRf hRl (Nat.le_of_ble_eq_true rfl) (Nat.le_of_ble_eq_true rfl) hl.1 (Nat.le_of_ble_eq_true rfl) (by rw [hRc]; exact Nat.le_of_ble_eq_true rfl) (by rw [hRs]; exact Nat.le_of_ble_eq_true rfl) dX10_existingStone_33 ?_
      have hk_4 := And.left hok
      have hok := And.right hok
      refine xcast (K := 8) C (xat_8 hM hk_4) rfl q_761 dX10_existingStone_38 ?_
      refine W.widen (k := 1) (n := 6) (Nat.le_of_ble_eq_true rfl) (Nat.le_of_ble_eq_true rfl) ?_
      exact ret _ _ _ dX10_existingStone_41 hf
    · have hf := hf.trans (if_neg c_2)
      have hok := oif_neg hok c_2
      exact J_17 hf ls (lv_sub hl [] rfl)
def f_X10_fallOf_l7_88 (x : Nat) (p1 : Nat) (w2_7 : Int32) (w3_7 : Int64) (w5_7 : Int32) (σw_7 : XS) (v2_88 : Int32) (v3_88 : Int64) (v5_88 : Int32) (σ_88 : XS) : Bool × (Int32 × Int64 × Int32 × XS) := (true, (v2_88, v3_88, (v5_88 + 1), σ_88))
def f_X10_fallOf_l7_73 (x : Nat) (p1 : Nat) (w2_7 : Int32) (w3_7 : Int64) (w5_7 : Int32) (σw_7 : XS) (v2_73 : Int32) (v3_73 : Int64) (v5_73 : Int32) (t0_73 : Int64) (σ_73 : XS) : Bool × (Int32 × Int64 × Int32 × XS) := (if (lg_cmp t0_73 v3_73) ≤ 0 then (f_X10_fallOf_l7_88 x p1 w2_7 w3_7 w5_7 σw_7 v2_73 v3_73 v5_73 σ_73) else (f_X10_fallOf_l7_88 x p1 w2_7 w3_7 w5_7 σw_7 v5_73 t0_73 v5_73 σ_73))
def b_X10_fallOf_7 (x : Nat) (p1 : Nat) (w2_7 : Int32) (w3_7 : Int64) (w5_7 : Int32) (σw_7 : XS) : Bool × (Int32 × Int64 × Int32 × XS) := (if (nI (xn σw_7 3)) ≤ w5_7 then (false, (w2_7, w3_7, w5_7, σw_7)) else (if (f_X4_exists σw_7 (xe σw_7 3 (ix w5_7))) = 0 then (f_X10_fallOf_l7_88 x p1 w2_7 w3_7 w5_7 σw_7 w2_7 w3_7 w5_7 σw_7) else (if (xi σw_7 163 p1) < (xi σw_7 100 (xe σw_7 3 (ix w5_7))) then (f_X10_fallOf_l7_88 x p1 w2_7 w3_7 w5_7 σw_7 w2_7 w3_7 w5_7 σw_7) else (f_X10_fallOf_l7_73 x p1 w2_7 w3_7 w5_7 σw_7 w2_7 w3_7 w5_7 ((f_X10_chanceIn σw_7 x (xe σw_7 3 (ix w5_7)) w5_7 (xi σw_7 161 p1) (xi σw_7 162 p1)).1) ((f_X10_chanceIn σw_7 x (xe σw_7 3 (ix w5_7)) w5_7 (xi σw_7 161 p1) (xi σw_7 162 p1)).2)))))
def ob_X10_fallOf_7 (x : Nat) (p1 : Nat) (w2_7 : Int32) (w3_7 : Int64) (w5_7 : Int32) (σw_7 : XS) : Prop := (oif ((nI (xn σw_7 3)) ≤ w5_7) True (vp_in w5_7 (xn σw_7 3) ∧ ((xk σw_7 (xe σw_7 3 (ix w5_7))) = 5 ∧ (of_X4_exists σw_7 (xe σw_7 3 (ix w5_7)) ∧ (oif ((f_X4_exists σw_7 (xe σw_7 3 (ix w5_7))) = 0) True ((xk σw_7 p1) = 8 ∧ (oif ((xi σw_7 163 p1) < (xi σw_7 100 (xe σw_7 3 (ix w5_7)))) True (of_X10_chanceIn σw_7 x (xe σw_7 3 (ix w5_7)) w5_7 (xi σw_7 161 p1) (xi σw_7 162 p1) ∧ True))))))))
def s_X10_fallOf_7 (x : Nat) (p1 : Nat) (v : Int32 × Int64 × Int32 × XS) : Bool × (Int32 × Int64 × Int32 × XS) := b_X10_fallOf_7 x p1 v.1 v.2.1 v.2.2.1 v.2.2.2
def os_X10_fallOf_7 (x : Nat) (p1 : Nat) (v : Int32 × Int64 × Int32 × XS) : Prop := ob_X10_fallOf_7 x p1 v.1 v.2.1 v.2.2.1 v.2.2.2
def f_X10_fallOf_94 (σ : XS) (x : Nat) (p1 : Nat) (v2_94 : Int32) (σ_94 : XS) : Int32 × XS := (v2_94, σ_94)
def f_X10_fallOf_7 (σ : XS) (x : Nat) (p1 : Nat) (v2_7 : Int32) (v3_7 : Int64) (v5_7 : Int32) (σ_7 : XS) : Int32 × XS := (f_X10_fallOf_94 σ x p1 ((itr (s_X10_fallOf_7 x p1) FU (v2_7, v3_7, v5_7, σ_7)).1) ((itr (s_X10_fallOf_7 x p1) FU (v2_7, v3_7, v5_7, σ_7)).2.2.2))
def of_X10_fallOf_7 (σ : XS) (x : Nat) (p1 : Nat) (v2_7 : Int32) (v3_7 : Int64) (v5_7 : Int32) (σ_7 : XS) : Prop := (ito (s_X10_fallOf_7 x p1) (os_X10_fallOf_7 x p1) FU (v2_7, v3_7, v5_7, σ_7) ∧ True)
def f_X10_fallOf (σ : XS) (x : Nat) (p1 : Nat) : Int32 × XS := (f_X10_fallOf_7 σ x p1 (-1) 0 0 σ)
def of_X10_fallOf (σ : XS) (x : Nat) (p1 : Nat) : Prop := (of_X10_fallOf_7 σ x p1 (-1) 0 0 σ)
set_option maxHeartbeats 4000000 in
set_option maxRecDepth 100000 in
theorem k_X10_fallOf (l : Launch) (D : va_G) (a : Nat → ClassId) (x : Nat) (e0 : Nat) (A : Nat → Prop) (σ : XS) (p1 : Nat) (hok : of_X10_fallOf σ x p1) : KX l D a x e0 A yX10_fallOf cX10_fallOf 9 ((some .int)) 6 145 0 0 [.ref x, .ref p1] σ (fun v => some (.int v)) (fun _ => f_X10_fallOf σ x p1) := by
  refine goXi (by decide +kernel) (Nat.le_of_ble_eq_true rfl) ?_
  intro p e s m args below meth c ls R Q nq hRf hRl hRc hRs hnq C hE hM hl ret
  have hl : lv_has ls 9 [(0, .ref x), (1, .ref p1)] := hl
  have hx := C.1.1
  have hb := C.1.2.1
  have hts := C.1.2.2.2.2
  have hown := C.1.2.2.2.1
  have hf : (f_X10_fallOf σ x p1) = (f_X10_fallOf σ x p1) := rfl
  have J_94 : ∀ (v2_94 : Int32) (σ_94 : XS), (f_X10_fallOf σ x p1) = f_X10_fallOf_94 σ x p1 v2_94 σ_94 → ∀ (H : Heap) (locs : List Loc) (ls : Array Slot), HX D a x e0 A σ_94 s.heap H locs → lv_has ls 9 [(2, .int v2_94)] → W p l e R s m args below meth c H locs 0 0 Q (F0 m 94 ls []) := by
    intro v2_94 σ_94 hf H locs ls hM hl
    refine lv_iload_n hx hb dX10_fallOf_94 rfl (lv_at hl 0 rfl) ?_
    exact ret _ _ _ _ _ _ hM dX10_fallOf_95 hf
  have J_7 : ∀ (v2_7 : Int32) (v3_7 : Int64) (v5_7 : Int32) (σ_7 : XS), (f_X10_fallOf σ x p1) = f_X10_fallOf_7 σ x p1 v2_7 v3_7 v5_7 σ_7 → of_X10_fallOf_7 σ x p1 v2_7 v3_7 v5_7 σ_7 → ∀ (H : Heap) (locs : List Loc) (ls : Array Slot), HX D a x e0 A σ_7 s.heap H locs → lv_has ls 9 [(0, .ref x), (1, .ref p1), (2, .int v2_7), (3, .long v3_7), (5, .int v5_7)] → W p l e R s m args below meth c H locs 0 0 Q (F0 m 7 ls []) := by
    intro v2_7 v3_7 v5_7 σ_7 hf hok H locs ls hM hl
    refine itr_W (f := (s_X10_fallOf_7 x p1)) (o := (os_X10_fallOf_7 x p1)) (fun (v : Int32 × Int64 × Int32 × XS) => ∀ (H : Heap) (locs : List Loc) (ls : Array Slot), HX D a x e0 A v.2.2.2 s.heap H locs → lv_has ls 9 [(0, .ref x), (1, .ref p1), (2, .int v.1), (3, .long v.2.1), (5, .int v.2.2.1)] → W p l e R s m args below meth c H locs 0 0 Q (F0 m 7 ls [])) (fun (v : Int32 × Int64 × Int32 × XS) => ∀ (H : Heap) (locs : List Loc) (ls : Array Slot), HX D a x e0 A v.2.2.2 s.heap H locs → lv_has ls 9 [(2, .int v.1)] → W p l e R s m args below meth c H locs 0 0 Q (F0 m 94 ls [])) ?_ FU (v2_7, v3_7, v5_7, σ_7) (And.left hok) ?_ _ _ ls hM (lv_sub hl [0, 1, 2, 3, 4] rfl)
    · intro v hov kc ke
      obtain ⟨w2_7, w3_7, w5_7, σw_7⟩ := v
      have hok : ob_X10_fallOf_7 x p1 w2_7 w3_7 w5_7 σw_7 := hov
      change ∀ v', (b_X10_fallOf_7 x p1 w2_7 w3_7 w5_7 σw_7) = (true, v') → _ at kc
      change ∀ v', (b_X10_fallOf_7 x p1 w2_7 w3_7 w5_7 σw_7) = (false, v') → _ at ke
      have hf : (b_X10_fallOf_7 x p1 w2_7 w3_7 w5_7 σw_7) = (b_X10_fallOf_7 x p1 w2_7 w3_7 w5_7 σw_7) := rfl
      intro H locs ls hM hl
      have J_l7_88 : ∀ (v2_88 : Int32) (v3_88 : Int64) (v5_88 : Int32) (σ_88 : XS), (b_X10_fallOf_7 x p1 w2_7 w3_7 w5_7 σw_7) = f_X10_fallOf_l7_88 x p1 w2_7 w3_7 w5_7 σw_7 v2_88 v3_88 v5_88 σ_88 → ∀ (H : Heap) (locs : List Loc) (ls : Array Slot), HX D a x e0 A σ_88 s.heap H locs → lv_has ls 9 [(0, .ref x), (1, .ref p1), (2, .int v2_88), (3, .long v3_88), (5, .int v5_88)] → W p l e R s m args below meth c H locs 0 0 Q (F0 m 88 ls []) := by
        intro v2_88 v3_88 v5_88 σ_88 hf H locs ls hM hl
        refine lv_iinc (v := (v5_88 + 1)) (lv' := [(5, .int (v5_88 + 1)), (0, .ref x), (1, .ref p1), (2, .int v2_88), (3, .long v3_88)]) hx hb dX10_fallOf_88 hl (k := 4) rfl rfl (by decide) rfl (fun ls hl => ?_)
        refine lv_goto (tgt := 7) hx hb dX10_fallOf_91 (by decide) ?_
        exact kc (v2_88, v3_88, (v5_88 + 1), σ_88) hf H locs ls hM (lv_sub hl [1, 2, 3, 4, 0] rfl)
      have J_l7_73 : ∀ (v2_73 : Int32) (v3_73 : Int64) (v5_73 : Int32) (t0_73 : Int64) (σ_73 : XS), (b_X10_fallOf_7 x p1 w2_7 w3_7 w5_7 σw_7) = f_X10_fallOf_l7_73 x p1 w2_7 w3_7 w5_7 σw_7 v2_73 v3_73 v5_73 t0_73 σ_73 → ∀ (H : Heap) (locs : List Loc) (ls : Array Slot), HX D a x e0 A σ_73 s.heap H locs → lv_has ls 9 [(0, .ref x), (1, .ref p1), (2, .int v2_73), (3, .long v3_73), (5, .int v5_73)] → W p l e R s m args below meth c H locs 0 0 Q (F0 m 73 ls [.long t0_73]) := by
        intro v2_73 v3_73 v5_73 t0_73 σ_73 hf H locs ls hM hl
        refine lv_lstore (lv' := [(7, .long t0_73), (0, .ref x), (1, .ref p1), (2, .int v2_73), (3, .long v3_73), (5, .int v5_73)]) hx hb dX10_fallOf_73 hl (by decide) rfl (fun ls hl => ?_)
        refine lv_lload hx hb dX10_fallOf_75 (lv_at hl 0 rfl) ?_
        refine lv_lload_n hx hb dX10_fallOf_77 rfl (lv_at hl 4 rfl) ?_
        refine W.lcmp hx hb dX10_fallOf_78 ?_
        refine lv_if_le (tgt := 88) hx hb dX10_fallOf_79 (by decide) (fun c_9 => ?_) (fun c_9 => ?_)
        · have hf := hf.trans (if_pos c_9)
          exact J_l7_88 v2_73 v3_73 v5_73 σ_73 hf _ _ ls hM (lv_sub hl [1, 2, 3, 4, 5] rfl)
        · have hf := hf.trans (if_neg c_9)
          refine lv_lload hx hb dX10_fallOf_82 (lv_at hl 0 rfl) ?_
          refine lv_lstore_n (lv' := [(3, .long t0_73), (7, .long t0_73), (0, .ref x), (1, .ref p1), (2, .int v2_73), (5, .int v5_73)]) hx hb dX10_fallOf_84 rfl hl (by decide) rfl (fun ls hl => ?_)
          refine lv_iload hx hb dX10_fallOf_85 (lv_at hl 5 rfl) ?_
          refine lv_istore_n (lv' := [(2, .int v5_73), (3, .long t0_73), (7, .long t0_73), (0, .ref x), (1, .ref p1), (5, .int v5_73)]) hx hb dX10_fallOf_87 rfl hl (by decide) rfl (fun ls hl => ?_)
          exact J_l7_88 v5_73 t0_73 v5_73 σ_73 hf _ _ ls hM (lv_sub hl [3, 4, 0, 1, 5] rfl)
      refine lv_iload hx hb dX10_fallOf_7 (lv_at hl 4 rfl) ?_
      refine lv_aload_n hx hb dX10_fallOf_9 rfl (lv_at hl 0 rfl) ?_
      refine xt_rows C hM dX10_fallOf_10 ?_
      refine xl_size (j := 3) C hE hM (by decide) hRf hRl (Nat.le_of_ble_eq_true rfl) (Nat.le_of_ble_eq_true rfl) hl.1 (Nat.le_of_ble_eq_true rfl) (Nat.zero_le _) (Nat.zero_le _) dX10_fallOf_13 ?_
      refine lv_icmp_ge (tgt := 94) hx hb dX10_fallOf_18 (by decide) (fun c_1 => ?_) (fun c_1 => ?_)
      · have hf := hf.trans (if_pos c_1)
        have hok := oif_pos hok c_1
        exact ke (w2_7, w3_7, w5_7, σw_7) hf H locs ls hM (lv_sub hl [2] rfl)
      · have hf := hf.trans (if_neg c_1)
        have hok := oif_neg hok c_1
        refine lv_aload_n hx hb dX10_fallOf_21 rfl (lv_at hl 0 rfl) ?_
        refine xt_rows C hM dX10_fallOf_22 ?_
        refine lv_iload hx hb dX10_fallOf_25 (lv_at hl 4 rfl) ?_
        have ok_2 := And.left hok
        have hok := And.right hok
        refine xl_get (j := 3) C hE hM (by decide) ok_2 hRf hRl (Nat.le_of_ble_eq_true rfl) (Nat.le_of_ble_eq_true rfl) hl.1 (Nat.le_of_ble_eq_true rfl) (Nat.zero_le _) (Nat.zero_le _) dX10_fallOf_27 ?_
        have hk_3 := And.left hok
        have hok := And.right hok
        refine xcast (K := 5) C (xat_5 hM hk_3) rfl q_120 dX10_fallOf_32 ?_
        refine lv_astore (lv' := [(6, .ref (xe σw_7 3 (ix w5_7))), (0, .ref x), (1, .ref p1), (2, .int w2_7), (3, .long w3_7), (5, .int w5_7)]) hx hb dX10_fallOf_35 hl (by decide) rfl (fun ls hl => ?_)
        refine lv_aload hx hb dX10_fallOf_37 (lv_at hl 0 rfl) ?_
        have ok_4 := And.left hok
        have hok := And.right hok
        refine cc_X (av := []) (b := (xe σw_7 3 (ix w5_7))) C hE hM (k_X4_exists l D a x e0 A σw_7 (xe σw_7 3 (ix w5_7)) ok_4) cw_X10_365 (okR_of hRf hRl (Nat.le_of_ble_eq_true rfl) (Nat.le_of_ble_eq_true rfl)) (xr_at (K := 5) C hM hk_3 (by decide) rfl) rfl rfl hl.1 (Nat.le_of_ble_eq_true rfl) (Nat.zero_le _) (Nat.zero_le _) dX10_fallOf_39 ?_
        refine lv_if_eq (tgt := 88) hx hb dX10_fallOf_42 (by decide) (fun c_5 => ?_) (fun c_5 => ?_)
        · have hf := hf.trans (if_pos c_5)
          have hok := oif_pos hok c_5
          exact J_l7_88 w2_7 w3_7 w5_7 σw_7 hf _ _ ls hM (lv_sub hl [1, 2, 3, 4, 5] rfl)
        · have hf := hf.trans (if_neg c_5)
          have hok := oif_neg hok c_5
          refine lv_aload hx hb dX10_fallOf_45 (lv_at hl 0 rfl) ?_
          refine xg_X10_419 C hM hk_3 dX10_fallOf_47 ?_
          refine lv_aload_n hx hb dX10_fallOf_50 rfl (lv_at hl 2 rfl) ?_
          have hk_6 := And.left hok
          have hok := And.right hok
          refine xg_X10_462 C hM hk_6 dX10_fallOf_51 ?_
          refine lv_icmp_gt (tgt := 88) hx hb dX10_fallOf_54 (by decide) (fun c_7 => ?_) (fun c_7 => ?_)
          · have hf := hf.trans (if_pos c_7)
            have hok := oif_pos hok c_7
            exact J_l7_88 w2_7 w3_7 w5_7 σw_7 hf _ _ ls hM (lv_sub hl [1, 2, 3, 4, 5] rfl)
          · have hf := hf.trans (if_neg c_7)
            have hok := oif_neg hok c_7
            refine lv_aload_n hx hb dX10_fallOf_57 rfl (lv_at hl 1 rfl) ?_
            refine lv_aload hx hb dX10_fallOf_58 (lv_at hl 0 rfl) ?_
            refine lv_iload hx hb dX10_fallOf_60 (lv_at hl 5 rfl) ?_
            refine lv_aload_n hx hb dX10_fallOf_62 rfl (lv_at hl 2 rfl) ?_
            refine xg_X10_325 C hM hk_6 dX10_fallOf_63 ?_
            refine lv_aload_n hx hb dX10_fallOf_66 rfl (lv_at hl 2 rfl) ?_
            refine xg_X10_326 C hM hk_6 dX10_fallOf_67 ?_
            have ok_8 := And.left hok
            have hok := And.right hok
            refine cc_XM (av := [.ref (xe σw_7 3 (ix w5_7)), .int w5_7, .int (xi σw_7 161 p1), .int (xi σw_7 162 p1)]) (b := x) (N := 0) (Or.inr (fun _ => rfl)) C hE hM (k_X10_chanceIn l D a x e0 A σw_7 (xe σw_7 3 (ix w5_7)) w5_7 (xi σw_7 161 p1) (xi σw_7 162 p1) ok_8) cw_X10_242 (okR_of hRf hRl (Nat.le_of_ble_eq_true rfl) (Nat.le_of_ble_eq_true rfl)) (xr_net C hM) rfl rfl hl.1 (Nat.le_of_ble_eq_true rfl) (Nat.zero_le _) (Nat.zero_le _) dX10_fallOf_70 (fun H locs hM => ?_)
            exact J_l7_73 w2_7 w3_7 w5_7 ((f_X10_chanceIn σw_7 x (xe σw_7 3 (ix w5_7)) w5_7 (xi σw_7 161 p1) (xi σw_7 162 p1)).1) ((f_X10_chanceIn σw_7 x (xe σw_7 3 (ix w5_7)) w5_7 (xi σw_7 161 p1) (xi σw_7 162 p1)).2) hf _ _ ls hM (lv_sub hl [1, 2, 3, 4, 5] rfl)
    · have hok := And.right hok
      intro H locs ls hM hl
      exact J_94 ((itr (s_X10_fallOf_7 x p1) FU (v2_7, v3_7, v5_7, σ_7)).1) ((itr (s_X10_fallOf_7 x p1) FU (v2_7, v3_7, v5_7, σ_7)).2.2.2) hf _ _ ls hM (lv_sub hl [0] rfl)
  refine lv_iconst (v := (-1)) hx hb dX10_fallOf_0 (by decide) ?_
  refine lv_istore_n (lv' := [(2, .int (-1)), (0, .ref x), (1, .ref p1)]) hx hb dX10_fallOf_1 rfl hl (by decide) rfl (fun ls hl => ?_)
  refine lv_lconst (v := 0) hx hb dX10_fallOf_2 (by decide) ?_
  refine lv_lstore_n (lv' := [(3, .long 0), (2, .int (-1)), (0, .ref x), (1, .ref p1)]) hx hb dX10_fallOf_3 rfl hl (by decide) rfl (fun ls hl => ?_)
  refine lv_iconst (v := 0) hx hb dX10_fallOf_4 (by decide) ?_
  refine lv_istore (lv' := [(5, .int 0), (3, .long 0), (2, .int (-1)), (0, .ref x), (1, .ref p1)]) hx hb dX10_fallOf_5 hl (by decide) rfl (fun ls hl => ?_)
  exact J_7 (-1) 0 0 σ hf hok _ _ ls hM (lv_sub hl [3, 4, 2, 1, 0] rfl)
def f_X10_fall (σ : XS) (x : Nat) (p1 : Int32) : Except Nat (Int32 × XS) := (exb (f_X10_existingStone σ x p1) (fun v9_2 => .ok ((f_X10_fallOf σ x v9_2).1, (f_X10_fallOf σ x v9_2).2)))
def of_X10_fall (σ : XS) (x : Nat) (p1 : Int32) : Prop := (of_X10_existingStone σ x p1 ∧ (exo (f_X10_existingStone σ x p1) (fun v9_2 => (of_X10_fallOf σ x v9_2 ∧ True))))
set_option maxHeartbeats 4000000 in
set_option maxRecDepth 100000 in
theorem k_X10_fall (l : Launch) (D : va_G) (a : Nat → ClassId) (x : Nat) (e0 : Nat) (A : Nat → Prop) (hfl : l.stackTraces = false) (σ : XS) (p1 : Int32) (hok : of_X10_fall σ x p1) : KTm l D a x e0 A yX10_fall cX10_fall 2 ((some .int)) 7 173 1 6 [.ref x, .int p1] σ (fun v => some (.int v)) (fun _ => f_X10_fall σ x p1) := by
  refine goUi hfl rfl (by decide +kernel) (Nat.le_of_ble_eq_true rfl) ?_
  intro p e s m args below meth c ls R Q nq hRf hRl hRc hRs hnq C hE hM hl ret thr out
  have hl : lv_has ls 2 [(0, .ref x), (1, .int p1)] := hl
  have hx := C.1.1
  have hb := C.1.2.1
  have hts := C.1.2.2.2.2
  have hown := C.1.2.2.2.1
  have hf : (f_X10_fall σ x p1) = (f_X10_fall σ x p1) := rfl
  refine lv_aload_n hx hb dX10_fall_0 rfl (lv_at hl 0 rfl) ?_
  refine lv_aload_n hx hb dX10_fall_1 rfl (lv_at hl 0 rfl) ?_
  refine lv_iload_n hx hb dX10_fall_2 rfl (lv_at hl 1 rfl) ?_
  have ok_1 := And.left hok
  have hok := And.right hok
  refine cc_TV (av := [.int p1]) (b := x) C hE hM (k_X10_existingStone l D a x e0 A hfl σ p1 ok_1) cw_X10_264 (okR_of hRf hRl (Nat.le_of_ble_eq_true rfl) (Nat.le_of_ble_eq_true rfl)) (xr_net C hM) rfl rfl hl.1 (Nat.le_of_ble_eq_true rfl) (by rw [hRc]; exact Nat.le_of_ble_eq_true rfl) (by rw [hRs]; exact Nat.le_of_ble_eq_true rfl) dX10_fall_3 (fun k9 E9 ce9 q9 H9 hF9 z1 z2 z3 z4 z5 z6 => out z1 z2 z3 z4 z5 z6 (Nat.le_of_ble_eq_true rfl) (Nat.le_of_ble_eq_true rfl) (hf.trans (exb_er hF9))) (fun v9_2 hv9_2 => ?_)
  have hf := hf.trans (exb_ok hv9_2)
  have hok := exo_ok hok hv9_2
  have ok_3 := And.left hok
  have hok := And.right hok
  refine cc_XM (av := [.ref v9_2]) (b := x) (N := 0) (Or.inr (fun _ => rfl)) C hE hM (k_X10_fallOf l D a x e0 A σ v9_2 ok_3) cw_X10_268 (okR_of hRf hRl (Nat.le_of_ble_eq_true rfl) (Nat.le_of_ble_eq_true rfl)) (xr_net C hM) rfl rfl hl.1 (Nat.le_of_ble_eq_true rfl) (by rw [hRc]; exact Nat.le_of_ble_eq_true rfl) (by rw [hRs]; exact Nat.le_of_ble_eq_true rfl) dX10_fall_6 (fun H locs hM => ?_)
  exact ret _ _ _ _ _ _ hM dX10_fall_9 hf
def f_X10_minerals (σ : XS) (x : Nat) (p1 : Int32) (p2 : Int32) (p3 : Int32) (p4 : Int32) : Except Nat (Unit × XS) := (exb (f_X10_existingStone σ x p1) (fun v9_2 => (exb (f_X10_requireRange p2 0 1000) (fun v9_3 => (exb (f_X10_requireRange p3 0 9) (fun v9_4 => (exb (f_X10_requireRange p4 0 9) (fun v9_5 => .ok ((), (xI (xI (xI σ 170 v9_2 p2) 171 v9_2 p3) 172 v9_2 p4))))))))))
def of_X10_minerals (σ : XS) (x : Nat) (p1 : Int32) (p2 : Int32) (p3 : Int32) (p4 : Int32) : Prop := (of_X10_existingStone σ x p1 ∧ (exo (f_X10_existingStone σ x p1) (fun v9_2 => (exo (f_X10_requireRange p2 0 1000) (fun v9_3 => (exo (f_X10_requireRange p3 0 9) (fun v9_4 => (exo (f_X10_requireRange p4 0 9) (fun v9_5 => ((xk σ v9_2) = 8 ∧ True))))))))))
def f_X10_rule_48 (σ : XS) (x : Nat) (nq : Nat) (p1 : Int32) (p2 : Int32) (p3 : Int32) (t0_48 : Nat) (t1_48 : Int32) (σ_48 : XS) : Except Nat (Unit × XS) := .ok ((), (xR σ_48 242 (ix t1_48) t0_48))
def of_X10_rule_48 (σ : XS) (x : Nat) (nq : Nat) (p1 : Int32) (p2 : Int32) (p3 : Int32) (t0_48 : Nat) (t1_48 : Int32) (σ_48 : XS) : Prop := (vp_in t1_48 10 ∧ ((xk σ_48 t0_48) = 6 ∧ True))
def f_X10_rule (σ : XS) (x : Nat) (nq : Nat) (p1 : Int32) (p2 : Int32) (p3 : Int32) : Except Nat (Unit × XS) := (exb (f_X10_requireRange p1 0 9) (fun v9_1 => (exb (f_X10_requireRange p2 0 1000) (fun v9_2 => (exb (f_X10_requireRange p3 0 p2) (fun v9_3 => (if p1 < 0 then .ok ((), σ) else (if 10 ≤ p1 then .ok ((), σ) else (f_X10_rule_48 σ x nq p1 p2 p3 nq p1 ((f_X5_init (xNew σ 6 nq) nq p2 p3).2))))))))))
def of_X10_rule (σ : XS) (x : Nat) (nq : Nat) (p1 : Int32) (p2 : Int32) (p3 : Int32) : Prop := (exo (f_X10_requireRange p1 0 9) (fun v9_1 => (exo (f_X10_requireRange p2 0 1000) (fun v9_2 => (exo (f_X10_requireRange p3 0 p2) (fun v9_3 => (oif (p1 < 0) True (oif (10 ≤ p1) True (of_X5_init (xNew σ 6 nq) nq p2 p3 ∧ (of_X10_rule_48 σ x nq p1 p2 p3 nq p1 ((f_X5_init (xNew σ 6 nq) nq p2 p3).2)))))))))))
def f_X10_latestRule_l4_34 (x : Nat) (p1 : Int32) (σ : XS) (w2_4 : Nat) (w3_4 : Int32) (v2_34 : Nat) (v3_34 : Int32) : Bool × (Nat × Int32) := (true, (v2_34, (v3_34 + 1)))
def b_X10_latestRule_4 (x : Nat) (p1 : Int32) (σ : XS) (w2_4 : Nat) (w3_4 : Int32) : Bool × (Nat × Int32) := (if p1 < w3_4 then (false, (w2_4, w3_4)) else (if 10 ≤ w3_4 then (false, (w2_4, w3_4)) else (if (xr σ 242 (ix w3_4)) = 0 then (f_X10_latestRule_l4_34 x p1 σ w2_4 w3_4 w2_4 w3_4) else (f_X10_latestRule_l4_34 x p1 σ w2_4 w3_4 (xr σ 242 (ix w3_4)) w3_4))))
def ob_X10_latestRule_4 (x : Nat) (p1 : Int32) (σ : XS) (w2_4 : Nat) (w3_4 : Int32) : Prop := (oif (p1 < w3_4) True (oif (10 ≤ w3_4) True (vp_in w3_4 10 ∧ (oif ((xr σ 242 (ix w3_4)) = 0) True (vp_in w3_4 10 ∧ True)))))
def s_X10_latestRule_4 (x : Nat) (p1 : Int32) (σ : XS) (v : Nat × Int32) : Bool × (Nat × Int32) := b_X10_latestRule_4 x p1 σ v.1 v.2
def os_X10_latestRule_4 (x : Nat) (p1 : Int32) (σ : XS) (v : Nat × Int32) : Prop := ob_X10_latestRule_4 x p1 σ v.1 v.2
def f_X10_latestRule_40 (σ : XS) (x : Nat) (p1 : Int32) (v2_40 : Nat) : Nat := v2_40
def f_X10_latestRule_4 (σ : XS) (x : Nat) (p1 : Int32) (v2_4 : Nat) (v3_4 : Int32) : Nat := (f_X10_latestRule_40 σ x p1 ((itr (s_X10_latestRule_4 x p1 σ) FU (v2_4, v3_4)).1))
def of_X10_latestRule_4 (σ : XS) (x : Nat) (p1 : Int32) (v2_4 : Nat) (v3_4 : Int32) : Prop := (ito (s_X10_latestRule_4 x p1 σ) (os_X10_latestRule_4 x p1 σ) FU (v2_4, v3_4) ∧ True)
def f_X10_latestRule (σ : XS) (x : Nat) (p1 : Int32) : Nat := (f_X10_latestRule_4 σ x p1 0 0)
def of_X10_latestRule (σ : XS) (x : Nat) (p1 : Int32) : Prop := (of_X10_latestRule_4 σ x p1 0 0)
def f_X10_classIn (σ : XS) (x : Nat) (p1 : Nat) (p2 : Int32) : Int32 := (if (f_X10_latestRule σ x p2) = 0 then 0 else (if (xi σ 170 p1) = (-1) then 0 else (((f_X5_groupOf σ (f_X10_latestRule σ x p2) (xi σ 170 p1)) + (10 * (xi σ 171 p1))) + (xi σ 172 p1))))
def of_X10_classIn (σ : XS) (x : Nat) (p1 : Nat) (p2 : Int32) : Prop := (of_X10_latestRule σ x p2 ∧ (oif ((f_X10_latestRule σ x p2) = 0) True ((xk σ p1) = 8 ∧ (oif ((xi σ 170 p1) = (-1)) True ((xk σ (f_X10_latestRule σ x p2)) = 6 ∧ (of_X5_groupOf σ (f_X10_latestRule σ x p2) (xi σ 170 p1) ∧ True))))))
def f_X10_classOf (σ : XS) (x : Nat) (p1 : Int32) (p2 : Int32) : Except Nat (Int32) := (exb (f_X10_existingStone σ x p1) (fun v9_2 => (exb (f_X10_requireRange p2 0 9) (fun v9_3 => .ok (f_X10_classIn σ x v9_2 p2)))))
def of_X10_classOf (σ : XS) (x : Nat) (p1 : Int32) (p2 : Int32) : Prop := (of_X10_existingStone σ x p1 ∧ (exo (f_X10_existingStone σ x p1) (fun v9_2 => (exo (f_X10_requireRange p2 0 9) (fun v9_3 => (of_X10_classIn σ x v9_2 p2 ∧ True))))))
def f_X10_pair_89 (σ : XS) (x : Nat) (p1 : Int32) (p2 : Int32) (p3 : Int32) (v7_89 : Int32) (t0_89 : Int32) (σ_89 : XS) : Except Nat (Int32 × XS) := (if v7_89 = t0_89 then .ok (1, σ_89) else (if v7_89 = (-1) then .ok (1, σ_89) else (if t0_89 = (-1) then .ok (1, σ_89) else .ok (0, σ_89))))
def f_X10_pair_81 (σ : XS) (x : Nat) (p1 : Int32) (p2 : Int32) (p3 : Int32) (v5_81 : Nat) (t0_81 : Int32) (σ_81 : XS) : Except Nat (Int32 × XS) := (f_X10_pair_89 σ x p1 p2 p3 t0_81 ((f_X10_fallOf σ_81 x v5_81).1) ((f_X10_fallOf σ_81 x v5_81).2))
def of_X10_pair_81 (σ : XS) (x : Nat) (p1 : Int32) (p2 : Int32) (p3 : Int32) (v5_81 : Nat) (t0_81 : Int32) (σ_81 : XS) : Prop := (of_X10_fallOf σ_81 x v5_81 ∧ True)
def f_X10_pair (σ : XS) (x : Nat) (p1 : Int32) (p2 : Int32) (p3 : Int32) : Except Nat (Int32 × XS) := (exb (f_X10_existingStone σ x p1) (fun v9_2 => (exb (f_X10_existingStone σ x p2) (fun v9_4 => (exb (f_X10_requireRange p3 0 9) (fun v9_5 => (if p1 = p2 then .error 1 else (if (f_X10_classIn σ x v9_2 p3) = 0 then .ok (0, σ) else (if (f_X10_classIn σ x v9_2 p3) = (f_X10_classIn σ x v9_4 p3) then (if (f_X7_isNear σ v9_2 v9_4) = 0 then .ok (0, σ) else (f_X10_pair_81 σ x p1 p2 p3 v9_4 ((f_X10_fallOf σ x v9_2).1) ((f_X10_fallOf σ x v9_2).2))) else .ok (0, σ))))))))))
def of_X10_pair (σ : XS) (x : Nat) (p1 : Int32) (p2 : Int32) (p3 : Int32) : Prop := (of_X10_existingStone σ x p1 ∧ (exo (f_X10_existingStone σ x p1) (fun v9_2 => (of_X10_existingStone σ x p2 ∧ (exo (f_X10_existingStone σ x p2) (fun v9_4 => (exo (f_X10_requireRange p3 0 9) (fun v9_5 => (oif (p1 = p2) True (of_X10_classIn σ x v9_2 p3 ∧ (oif ((f_X10_classIn σ x v9_2 p3) = 0) True (of_X10_classIn σ x v9_4 p3 ∧ (oif ((f_X10_classIn σ x v9_2 p3) = (f_X10_classIn σ x v9_4 p3)) (of_X7_isNear σ v9_2 v9_4 ∧ ((xk σ v9_2) = 8 ∧ (oif ((f_X7_isNear σ v9_2 v9_4) = 0) True (of_X10_fallOf σ x v9_2 ∧ (of_X10_pair_81 σ x p1 p2 p3 v9_4 ((f_X10_fallOf σ x v9_2).1) ((f_X10_fallOf σ x v9_2).2)))))) True)))))))))))))
def f_X10_cut_105 (σ : XS) (x : Nat) (nq : Nat) (p1 : Int32) (p2 : Int32) (p3 : Int32) (v4_105 : Nat) (t0_105 : Nat) (σ_105 : XS) : Except Nat (Int32 × XS) := .ok ((xi σ_105 160 t0_105), (xAdd (xI (xI σ_105 165 v4_105 ((xi σ_105 165 v4_105) - (p2 + p3))) 166 v4_105 ((xi σ_105 166 v4_105) + p3)) 6 t0_105))
def of_X10_cut_105 (σ : XS) (x : Nat) (nq : Nat) (p1 : Int32) (p2 : Int32) (p3 : Int32) (v4_105 : Nat) (t0_105 : Nat) (σ_105 : XS) : Prop := ((xk σ_105 v4_105) = 8 ∧ ((xk σ_105 t0_105) = 8 ∧ ((xn σ_105 6) ≤ 100 ∧ ((∀ i, i < (xn σ_105 6) → (xk σ_105 (xe σ_105 6 i)) = 8) ∧ True))))
def f_X10_cut (σ : XS) (x : Nat) (nq : Nat) (p1 : Int32) (p2 : Int32) (p3 : Int32) : Except Nat (Int32 × XS) := (exb (f_X10_existingStone σ x p1) (fun v9_2 => (exb (f_X10_requireRange p2 1 1000000) (fun v9_3 => (exb (f_X10_requireRange p3 0 1000) (fun v9_4 => (if (xi σ 168 v9_2) = 2 then .error 2 else (if 1 ≤ (((xi σ 165 v9_2) - p2) - p3) then (if (nI (xn σ 6)) < 40 then (f_X10_cut_105 σ x nq p1 p2 p3 v9_2 ((f_X7_pieceOf σ v9_2 nq (nI (xn σ 6)) p2).1) ((f_X7_pieceOf σ v9_2 nq (nI (xn σ 6)) p2).2)) else .error 2) else .error 2))))))))
def of_X10_cut (σ : XS) (x : Nat) (nq : Nat) (p1 : Int32) (p2 : Int32) (p3 : Int32) : Prop := (of_X10_existingStone σ x p1 ∧ (exo (f_X10_existingStone σ x p1) (fun v9_2 => (exo (f_X10_requireRange p2 1 1000000) (fun v9_3 => (exo (f_X10_requireRange p3 0 1000) (fun v9_4 => ((xk σ v9_2) = 8 ∧ (oif ((xi σ 168 v9_2) = 2) True (oif (1 ≤ (((xi σ 165 v9_2) - p2) - p3)) (oif ((nI (xn σ 6)) < 40) ((∀ nq, xk σ nq = 0 → of_X7_pieceOf σ v9_2 nq (nI (xn σ 6)) p2) ∧ (of_X10_cut_105 σ x nq p1 p2 p3 v9_2 ((f_X7_pieceOf σ v9_2 nq (nI (xn σ 6)) p2).1) ((f_X7_pieceOf σ v9_2 nq (nI (xn σ 6)) p2).2))) True) True))))))))))
def f_X10_lend_67 (σ : XS) (x : Nat) (p1 : Int32) (p2 : Int32) (v3_67 : Nat) (t0_67 : Int32) (t1_67 : Nat) : Except Nat (Unit × XS) := .ok ((), (xI (xI σ 168 t1_67 t0_67) 169 v3_67 p2))
def of_X10_lend_67 (σ : XS) (x : Nat) (p1 : Int32) (p2 : Int32) (v3_67 : Nat) (t0_67 : Int32) (t1_67 : Nat) : Prop := ((xk σ t1_67) = 8 ∧ ((xk σ v3_67) = 8 ∧ True))
def f_X10_lend_36 (σ : XS) (x : Nat) (p1 : Int32) (p2 : Int32) (v3_36 : Nat) (v4_36 : Int32) (t0_36 : Int32) : Except Nat (Unit × XS) := (if v4_36 = t0_36 then .error 2 else (if t0_36 = 0 then (f_X10_lend_67 σ x p1 p2 v3_36 1 v3_36) else (f_X10_lend_67 σ x p1 p2 v3_36 0 v3_36)))
def of_X10_lend_36 (σ : XS) (x : Nat) (p1 : Int32) (p2 : Int32) (v3_36 : Nat) (v4_36 : Int32) (t0_36 : Int32) : Prop := (oif (v4_36 = t0_36) True (oif (t0_36 = 0) (of_X10_lend_67 σ x p1 p2 v3_36 1 v3_36) (of_X10_lend_67 σ x p1 p2 v3_36 0 v3_36)))
def f_X10_lend_24 (σ : XS) (x : Nat) (p1 : Int32) (p2 : Int32) (v3_24 : Nat) (t0_24 : Int32) : Except Nat (Unit × XS) := (if p2 = (-1) then (f_X10_lend_36 σ x p1 p2 v3_24 t0_24 1) else (f_X10_lend_36 σ x p1 p2 v3_24 t0_24 0))
def of_X10_lend_24 (σ : XS) (x : Nat) (p1 : Int32) (p2 : Int32) (v3_24 : Nat) (t0_24 : Int32) : Prop := (oif (p2 = (-1)) (of_X10_lend_36 σ x p1 p2 v3_24 t0_24 1) (of_X10_lend_36 σ x p1 p2 v3_24 t0_24 0))
def f_X10_lend (σ : XS) (x : Nat) (p1 : Int32) (p2 : Int32) : Except Nat (Unit × XS) := (exb (f_X10_existingStone σ x p1) (fun v9_2 => (exb (f_X10_requireRange p2 (-1) 3) (fun v9_3 => (if (xi σ 168 v9_2) = 0 then (f_X10_lend_24 σ x p1 p2 v9_2 1) else (f_X10_lend_24 σ x p1 p2 v9_2 0))))))
def of_X10_lend (σ : XS) (x : Nat) (p1 : Int32) (p2 : Int32) : Prop := (of_X10_existingStone σ x p1 ∧ (exo (f_X10_existingStone σ x p1) (fun v9_2 => (exo (f_X10_requireRange p2 (-1) 3) (fun v9_3 => ((xk σ v9_2) = 8 ∧ (oif ((xi σ 168 v9_2) = 0) (of_X10_lend_24 σ x p1 p2 v9_2 1) (of_X10_lend_24 σ x p1 p2 v9_2 0))))))))
def f_X10_steal (σ : XS) (x : Nat) (p1 : Int32) : Except Nat (Unit × XS) := (exb (f_X10_existingStone σ x p1) (fun v9_2 => (if (xi σ 168 v9_2) = 2 then .error 2 else .ok ((), (xI (xI σ 168 v9_2 2) 169 v9_2 (-1))))))
def of_X10_steal (σ : XS) (x : Nat) (p1 : Int32) : Prop := (of_X10_existingStone σ x p1 ∧ (exo (f_X10_existingStone σ x p1) (fun v9_2 => ((xk σ v9_2) = 8 ∧ True))))
def f_X10_law (σ : XS) (x : Nat) (p1 : Int32) (p2 : Int32) : Except Nat (Int32 × XS) := (exb (f_X10_requireRange p1 0 3) (fun v9_1 => (exb (f_X10_requireRange p2 0 2) (fun v9_2 => (if p1 < 0 then .ok ((f_X10_lawIn σ x p1), σ) else (if 4 ≤ p1 then .ok ((f_X10_lawIn σ x p1), σ) else .ok ((f_X10_lawIn σ x p1), (xI σ 240 (ix p1) p2))))))))
def of_X10_law (σ : XS) (x : Nat) (p1 : Int32) (p2 : Int32) : Prop := (exo (f_X10_requireRange p1 0 3) (fun v9_1 => (exo (f_X10_requireRange p2 0 2) (fun v9_2 => (of_X10_lawIn σ x p1 ∧ (oif (p1 < 0) True (oif (4 ≤ p1) True (vp_in p1 4 ∧ True))))))))
def f_X10_give_91 (σ : XS) (x : Nat) (p1 : Int32) (p2 : Int32) (v3_91 : Nat) : Except Nat (Int32 × XS) := .ok ((xi σ 167 v3_91), (xI σ 167 v3_91 p2))
def of_X10_give_91 (σ : XS) (x : Nat) (p1 : Int32) (p2 : Int32) (v3_91 : Nat) : Prop := ((xk σ v3_91) = 8 ∧ True)
def f_X10_give (σ : XS) (x : Nat) (p1 : Int32) (p2 : Int32) : Except Nat (Int32 × XS) := (exb (f_X10_existingStone σ x p1) (fun v9_2 => (exb (f_X10_requireRange p2 0 5) (fun v9_3 => (if (xi σ 168 v9_2) = 0 then (if (xi σ 167 v9_2) = p2 then .error 2 else (if (f_X10_lawIn σ x (f_X10_landOf (xi σ 161 v9_2) (xi σ 162 v9_2))) = 2 then (if (p2 - p2 / 4 * 4) = (f_X10_landOf (xi σ 161 v9_2) (xi σ 162 v9_2)) then (f_X10_give_91 σ x p1 p2 v9_2) else .error 2) else (f_X10_give_91 σ x p1 p2 v9_2))) else .error 2)))))
def of_X10_give (σ : XS) (x : Nat) (p1 : Int32) (p2 : Int32) : Prop := (of_X10_existingStone σ x p1 ∧ (exo (f_X10_existingStone σ x p1) (fun v9_2 => (exo (f_X10_requireRange p2 0 5) (fun v9_3 => ((xk σ v9_2) = 8 ∧ (oif ((xi σ 168 v9_2) = 0) (oif ((xi σ 167 v9_2) = p2) True (of_X10_lawIn σ x (f_X10_landOf (xi σ 161 v9_2) (xi σ 162 v9_2)) ∧ (oif ((f_X10_lawIn σ x (f_X10_landOf (xi σ 161 v9_2) (xi σ 162 v9_2))) = 2) (oif ((p2 - p2 / 4 * 4) = (f_X10_landOf (xi σ 161 v9_2) (xi σ 162 v9_2))) (of_X10_give_91 σ x p1 p2 v9_2) True) (of_X10_give_91 σ x p1 p2 v9_2)))) True)))))))
def f_X10_nextNumberOf (σ : XS) (x : Nat) (p1 : Int32) : Int32 × XS := (if p1 < 0 then (0, σ) else (if p1 < 10 then ((xi (xI σ 241 (ix p1) ((xi σ 241 (ix p1)) + 1)) 241 (ix p1)), (xI σ 241 (ix p1) ((xi σ 241 (ix p1)) + 1))) else (0, σ)))
def of_X10_nextNumberOf (σ : XS) (x : Nat) (p1 : Int32) : Prop := (oif (p1 < 0) True (oif (p1 < 10) (vp_in p1 10 ∧ (vp_in p1 10 ∧ (vp_in p1 10 ∧ True))) True))
def f_X10_name_42 (σ : XS) (x : Nat) (p1 : Int32) (p2 : Int32) (v3_42 : Nat) (t0_42 : Int32) (t1_42 : Nat) (σ_42 : XS) : Except Nat (Int32 × XS) := .ok ((xi (xI σ_42 174 t1_42 t0_42) 174 v3_42), (xI σ_42 174 t1_42 t0_42))
def of_X10_name_42 (σ : XS) (x : Nat) (p1 : Int32) (p2 : Int32) (v3_42 : Nat) (t0_42 : Int32) (t1_42 : Nat) (σ_42 : XS) : Prop := ((xk σ_42 t1_42) = 8 ∧ ((xk σ_42 v3_42) = 8 ∧ True))
def f_X10_name (σ : XS) (x : Nat) (p1 : Int32) (p2 : Int32) : Except Nat (Int32 × XS) := (exb (f_X10_existingStone σ x p1) (fun v9_2 => (exb (f_X10_requireRange p2 0 9) (fun v9_3 => (if (f_X7_hasOwnName σ v9_2) = 0 then (f_X10_name_42 σ x p1 p2 v9_2 ((f_X10_nextNumberOf (xI σ 173 v9_2 p2) x p2).1) v9_2 ((f_X10_nextNumberOf (xI σ 173 v9_2 p2) x p2).2)) else .error 2)))))
def of_X10_name (σ : XS) (x : Nat) (p1 : Int32) (p2 : Int32) : Prop := (of_X10_existingStone σ x p1 ∧ (exo (f_X10_existingStone σ x p1) (fun v9_2 => (exo (f_X10_requireRange p2 0 9) (fun v9_3 => (of_X7_hasOwnName σ v9_2 ∧ ((xk σ v9_2) = 8 ∧ (oif ((f_X7_hasOwnName σ v9_2) = 0) (of_X10_nextNumberOf (xI σ 173 v9_2 p2) x p2 ∧ (of_X10_name_42 σ x p1 p2 v9_2 ((f_X10_nextNumberOf (xI σ 173 v9_2 p2) x p2).1) v9_2 ((f_X10_nextNumberOf (xI σ 173 v9_2 p2) x p2).2))) True))))))))
def f_X10_doubt (σ : XS) (x : Nat) (p1 : Int32) (p2 : Int32) : Except Nat (Int32 × XS) := (exb (f_X10_existingStone σ x p1) (fun v9_2 => (if (f_X7_hasOwnName σ v9_2) = 0 then .error 2 else .ok ((xi σ 175 v9_2), (xI σ 175 v9_2 p2)))))
def of_X10_doubt (σ : XS) (x : Nat) (p1 : Int32) (p2 : Int32) : Prop := (of_X10_existingStone σ x p1 ∧ (exo (f_X10_existingStone σ x p1) (fun v9_2 => (of_X7_hasOwnName σ v9_2 ∧ ((xk σ v9_2) = 8 ∧ (oif ((f_X7_hasOwnName σ v9_2) = 0) True (zb p2 ∧ (zb (xi σ 175 v9_2) ∧ True))))))))
def f_X10_stone (σ : XS) (x : Nat) (p1 : Int32) (p2 : Int32) : Except Nat (Int32) := (exb (f_X10_existingStone σ x p1) (fun v9_2 => (exb (f_X10_requireRange p2 0 7) (fun v9_3 => .ok (f_X7_number σ v9_2 p2)))))
def of_X10_stone (σ : XS) (x : Nat) (p1 : Int32) (p2 : Int32) : Prop := (of_X10_existingStone σ x p1 ∧ (exo (f_X10_existingStone σ x p1) (fun v9_2 => (exo (f_X10_requireRange p2 0 7) (fun v9_3 => (of_X7_number σ v9_2 p2 ∧ ((xk σ v9_2) = 8 ∧ True)))))))
def f_X10_whole_l11_64 (x : Nat) (v2_11 : Nat) (σ : XS) (w3_11 : Int32) (w4_11 : Int32) (v3_64 : Int32) (v4_64 : Int32) : Bool × (Int32 × Int32) := (true, (v3_64, (v4_64 + 1)))
def b_X10_whole_11 (x : Nat) (v2_11 : Nat) (σ : XS) (w3_11 : Int32) (w4_11 : Int32) : Bool × (Int32 × Int32) := (if (nI (xn σ 6)) ≤ w4_11 then (false, (w3_11, w4_11)) else (if (f_X7_isPartOf σ (xe σ 6 (ix w4_11)) v2_11) = 0 then (f_X10_whole_l11_64 x v2_11 σ w3_11 w4_11 w3_11 w4_11) else (f_X10_whole_l11_64 x v2_11 σ w3_11 w4_11 (w3_11 + ((xi σ 165 (xe σ 6 (ix w4_11))) + (xi σ 166 (xe σ 6 (ix w4_11))))) w4_11)))
def ob_X10_whole_11 (x : Nat) (v2_11 : Nat) (σ : XS) (w3_11 : Int32) (w4_11 : Int32) : Prop := (oif ((nI (xn σ 6)) ≤ w4_11) True (vp_in w4_11 (xn σ 6) ∧ ((xk σ (xe σ 6 (ix w4_11))) = 8 ∧ (of_X7_isPartOf σ (xe σ 6 (ix w4_11)) v2_11 ∧ True))))
def s_X10_whole_11 (x : Nat) (v2_11 : Nat) (σ : XS) (v : Int32 × Int32) : Bool × (Int32 × Int32) := b_X10_whole_11 x v2_11 σ v.1 v.2
def os_X10_whole_11 (x : Nat) (v2_11 : Nat) (σ : XS) (v : Int32 × Int32) : Prop := ob_X10_whole_11 x v2_11 σ v.1 v.2
def f_X10_whole_70 (σ : XS) (x : Nat) (p1 : Int32) (v3_70 : Int32) : Except Nat (Int32) := .ok v3_70
def f_X10_whole_11 (σ : XS) (x : Nat) (p1 : Int32) (v2_11 : Nat) (v3_11 : Int32) (v4_11 : Int32) : Except Nat (Int32) := (f_X10_whole_70 σ x p1 ((itr (s_X10_whole_11 x v2_11 σ) FU (v3_11, v4_11)).1))
def of_X10_whole_11 (σ : XS) (x : Nat) (p1 : Int32) (v2_11 : Nat) (v3_11 : Int32) (v4_11 : Int32) : Prop := (ito (s_X10_whole_11 x v2_11 σ) (os_X10_whole_11 x v2_11 σ) FU (v3_11, v4_11) ∧ True)
def f_X10_whole (σ : XS) (x : Nat) (p1 : Int32) : Except Nat (Int32) := (exb (f_X10_existingStone σ x p1) (fun v9_2 => (f_X10_whole_11 σ x p1 v9_2 0 0)))
def of_X10_whole (σ : XS) (x : Nat) (p1 : Int32) : Prop := (of_X10_existingStone σ x p1 ∧ (exo (f_X10_existingStone σ x p1) (fun v9_2 => (of_X10_whole_11 σ x p1 v9_2 0 0))))
