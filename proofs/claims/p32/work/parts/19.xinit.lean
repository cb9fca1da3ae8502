/-! ===== the class is born ===== -/
section XINITC
variable {p : Program} {l : Launch} {e : Env} {R : Room} {s : State} {m : MethodId} {args : Array Value} {below : List Frame} {meth : Method} {c : Code} {H : Heap} {locs : List Loc} {cells slots : Nat} {Q : State → Prop} {D : va_G} {a : Nat → ClassId} {e0 : Nat} {A : Nat → Prop} {cc : ByteArray} {nL : Nat} {pc : Nat} {ls : Array Slot} {rest st : List Value} {own C host : String} {idx : Nat} {y : MethodName} {bytes : ByteArray} {maxL n fr lo mc ms : Nat} {av : List Value} {b : Nat}
theorem cg_I {B : State → Prop} {P : Heap → Option Value → Heap → Prop} (C0 : Cx D a p s m args c cc nL own) (hS : va_S A s.heap H locs) (hK : KG l y bytes maxL none fr lo mc ms (.ref b :: av) A B P) (hG : GB D a B) (cw : CWI own idx y bytes maxL n) (hR : okR R maxL fr lo) (hB : ∀ U : State, U.heap = H → s.WarmedH U.vm → B U)
    (hst : st = av.reverse ++ .ref b :: rest) (hn : av.length = n) (hsz : ls.size = nL) (hW : (rest.map fun v => v.category).sum ≤ 8) (hc : cells + mc ≤ R.cells) (hs : slots + ms ≤ R.slots) (hdg : decode cc pc = .ok (.invokespecial idx, 3))
    (kk : ∀ H1 locs1 v, va_S A s.heap H1 locs1 → P H v H1 → W p l e R s m args below meth c H1 locs1 (cells + mc) (slots + ms) Q (F0 m (pc + 3) ls (v.toList ++ rest))) : W p l e R s m args below meth c H locs cells slots Q (F0 m pc ls st) := by
  have hrun := va_runI (mc := mc) (ms := ms) (R := R) (e := e) (below := below) (meth := meth) (H := H) (locs := locs) (cells := cells) (slots := slots) (g := F0 m pc ls st) (As := av) (rest := rest) (b := b) C0.1 hK (cwi_of cw C0.1.2.2.2.2 hR) ⟨fun z U g mk q => ⟨q.1, hG.2 U g mk z q.2⟩, fun U hU hW => ⟨rfl, hB U hU hW⟩⟩ rfl hn hsz hst (lv_room hW) hdg ⟨hc, hs⟩
  intro T hT X
  obtain ⟨v', st₀, t, T', L, h0, X', hL, e1, e2, ⟨⟨v, hv, hP⟩, hF⟩, stp⟩ := hrun T hT X
  cases hv
  obtain ⟨t2, a1, b1⟩ := kk T'.heap (locs ++ L) v' (vx_keep (A1 := A) h0 e1 hS (fun q _ h => h) (fun q h => h) hL hF).2.2 (by rw [e1, ← h0]; exact hP) T' rfl X'
  exact ⟨t2, stp t2 a1, b1⟩
def CWIZ (own host : String) (idx : Nat) (y : MethodName) (bytes : ByteArray) (maxL : Nat) (n : Nat) : Prop :=
  Cond.methodLinkNest own idx y host ∈ NBW ∧ Cond.instanceMethod y ∈ TB ∧ Cond.initialized y.cls ∈ TB ∧ Cond.code y bytes maxL none ∈ TB ∧ y.name = "<init>" ∧ hdY y n
theorem cg_IN {B : State → Prop} {P : Heap → Option Value → Heap → Prop} (C0 : Cx D a p s m args c cc nL own) (hE : EV D a e0 A s s.heap) (hS : va_S A s.heap H locs) (hK : KG l y bytes maxL none fr lo mc ms (.ref b :: av) A B P) (hG : GB D a B) (cw : CWIZ own host idx y bytes maxL n) (hR : okR R maxL fr lo) (hB : ∀ U : State, U.heap = H → s.WarmedH U.vm → B U)
    (hst : st = av.reverse ++ .ref b :: rest) (hn : av.length = n) (hsz : ls.size = nL) (hW : (rest.map fun v => v.category).sum ≤ 8) (hc : cells + mc ≤ R.cells) (hs : slots + ms ≤ R.slots) (hdg : decode cc pc = .ok (.invokespecial idx, 3))
    (kk : ∀ H1 locs1 v, va_S A s.heap H1 locs1 → P H v H1 → W p l e R s m args below meth c H1 locs1 (cells + mc) (slots + ms) Q (F0 m (pc + 3) ls (v.toList ++ rest))) : W p l e R s m args below meth c H locs cells slots Q (F0 m pc ls st) := by
  obtain ⟨w1, w2, w3, w4, w5, w6⟩ := cw
  have ht := C0.1.2.2.2.2
  have cw' : va_CN R s args own idx y host bytes maxL none (.code y bytes maxL none :: TB) { frames := fr, cells := mc, slots := ms, locals := lo } mc ms n := va_cnB n ht (tb_cons w4 tb_self) rfl rfl rfl (hE.2.1 _ w1) (ht _ w3) w6 hR
  have hrun := va_runIN (mc := mc) (ms := ms) (R := R) (e := e) (below := below) (meth := meth) (H := H) (locs := locs) (cells := cells) (slots := slots) (g := F0 m pc ls st) (As := av) (rest := rest) (b := b) C0.1 hK ⟨cw', w5, ht _ w2⟩ ⟨fun z U g mk q => ⟨q.1, hG.2 U g mk z q.2⟩, fun U hU hW => ⟨rfl, hB U hU hW⟩⟩ rfl hn hsz hst (lv_room hW) hdg ⟨hc, hs⟩
  intro T hT X
  obtain ⟨v', st₀, t, T', L, h0, X', hL, e1, e2, ⟨⟨v, hv, hP⟩, hF⟩, stp⟩ := hrun T hT X
  cases hv
  obtain ⟨t2, a1, b1⟩ := kk T'.heap (locs ++ L) v' (vx_keep (A1 := A) h0 e1 hS (fun q _ h => h) (fun q h => h) hL hF).2.2 (by rw [e1, ← h0]; exact hP) T' rfl X'
  exact ⟨t2, stp t2 a1, b1⟩
theorem bk_good : GB D a (BK D a) := ⟨fun _ h => h, fun U g mk z h => bk_blind g mk z h⟩
def PN : Heap → Option Value → Heap → Prop := fun H v H1 => v = none ∧ H1 = H
end XINITC
set_option maxRecDepth 100000 in
theorem k_Jxa1e45_init_da8c8 (l : Launch) (D : va_G) (a : Nat → ClassId) (A : Nat → Prop) (q : Nat) : KG l yJxa1e45_init_da8c8 cJxa1e45_init_da8c8 1 none 1 30 0 0 [.ref q] A (BK D a) PN := by
  refine goGv (D := D) (a := a) (by decide +kernel) bk_good (Nat.le_of_ble_eq_true rfl) ?_
  intro p e s m args below meth c ls R Q hRf hRl hRc hRs C hB hl ret
  have hl : lv_has ls 1 [(0, .ref q)] := hl
  refine lv_aload_n C.1.1 C.1.2.1 dJxa1e45_init_da8c8_0 rfl (lv_at hl 0 rfl) ?_
  refine ox_init C q_69 hl.1 (by rw [hRf]; exact Nat.le_refl _) (by rw [hRl]; exact Nat.le_of_ble_eq_true rfl) dJxa1e45_init_da8c8_1 ?_
  exact ret _ _ _ _ va_S.rf dJxa1e45_init_da8c8_4 ⟨rfl, rfl⟩
set_option maxRecDepth 100000 in
theorem k_X2_init (l : Launch) (D : va_G) (a : Nat → ClassId) (A : Nat → Prop) (q : Nat) : KG l yX2_init cX2_init 1 none 1 30 0 0 [.ref q] A (BK D a) PN := by
  refine goGv (D := D) (a := a) (by decide +kernel) bk_good (Nat.le_of_ble_eq_true rfl) ?_
  intro p e s m args below meth c ls R Q hRf hRl hRc hRs C hB hl ret
  have hl : lv_has ls 1 [(0, .ref q)] := hl
  refine lv_aload_n C.1.1 C.1.2.1 dX2_init_0 rfl (lv_at hl 0 rfl) ?_
  refine ox_init C q_89 hl.1 (by rw [hRf]; exact Nat.le_refl _) (by rw [hRl]; exact Nat.le_of_ble_eq_true rfl) dX2_init_1 ?_
  exact ret _ _ _ _ va_S.rf dX2_init_4 ⟨rfl, rfl⟩
set_option maxRecDepth 100000 in
theorem k_X3_init (l : Launch) (D : va_G) (a : Nat → ClassId) (A : Nat → Prop) (q : Nat) : KG l yX3_init cX3_init 1 none 1 30 0 0 [.ref q] A (BK D a) PN := by
  refine goGv (D := D) (a := a) (by decide +kernel) bk_good (Nat.le_of_ble_eq_true rfl) ?_
  intro p e s m args below meth c ls R Q hRf hRl hRc hRs C hB hl ret
  have hl : lv_has ls 1 [(0, .ref q)] := hl
  refine lv_aload_n C.1.1 C.1.2.1 dX3_init_0 rfl (lv_at hl 0 rfl) ?_
  refine ox_init C q_104 hl.1 (by rw [hRf]; exact Nat.le_refl _) (by rw [hRl]; exact Nat.le_of_ble_eq_true rfl) dX3_init_1 ?_
  exact ret _ _ _ _ va_S.rf dX3_init_4 ⟨rfl, rfl⟩
set_option maxRecDepth 100000 in
theorem k_X4_init (l : Launch) (D : va_G) (a : Nat → ClassId) (A : Nat → Prop) (q : Nat) : KG l yX4_init cX4_init 1 none 1 30 0 0 [.ref q] A (BK D a) PN := by
  refine goGv (D := D) (a := a) (by decide +kernel) bk_good (Nat.le_of_ble_eq_true rfl) ?_
  intro p e s m args below meth c ls R Q hRf hRl hRc hRs C hB hl ret
  have hl : lv_has ls 1 [(0, .ref q)] := hl
  refine lv_aload_n C.1.1 C.1.2.1 dX4_init_0 rfl (lv_at hl 0 rfl) ?_
  refine ox_init C q_125 hl.1 (by rw [hRf]; exact Nat.le_refl _) (by rw [hRl]; exact Nat.le_of_ble_eq_true rfl) dX4_init_1 ?_
  exact ret _ _ _ _ va_S.rf dX4_init_4 ⟨rfl, rfl⟩
theorem cwi_AbsC : CWI RJxc12de 1 yJxa1e45_init_da8c8 cJxa1e45_init_da8c8 1 0 := ⟨q_66, q_67, q_27, q_68, rfl, ⟨by decide +kernel, by decide +kernel, by decide +kernel⟩⟩
theorem cwi_AbsL : CWI RJx4a65c 1 yJxc12de_init_da8c8 cJxc12de_init_da8c8 1 0 := ⟨q_63, q_64, q_28, q_65, rfl, ⟨by decide +kernel, by decide +kernel, by decide +kernel⟩⟩
theorem cwi_ArrL : CWI RX10 9 yJx4a65c_init_da8c8 cJx4a65c_init_da8c8 1 0 := ⟨q_60, q_61, q_29, q_62, rfl, ⟨by decide +kernel, by decide +kernel, by decide +kernel⟩⟩
theorem cwz_31 : CWIZ RX10 "FireNet" 31 yX2_init cX2_init 1 0 := ⟨by decide +kernel, q_87, q_30, q_88, rfl, ⟨by decide +kernel, by decide +kernel, by decide +kernel⟩⟩
theorem cwz_47 : CWIZ RX10 "FireNet" 47 yX3_init cX3_init 1 0 := ⟨by decide +kernel, q_102, q_31, q_103, rfl, ⟨by decide +kernel, by decide +kernel, by decide +kernel⟩⟩
theorem cwz_70 : CWIZ RX10 "FireNet" 70 yX4_init cX4_init 1 0 := ⟨by decide +kernel, q_123, q_32, q_124, rfl, ⟨by decide +kernel, by decide +kernel, by decide +kernel⟩⟩
section XINITL
def LB0 (D : va_G) (a : Nat → ClassId) (e0 : Nat) (A : Nat → Prop) (q : Nat) (fs : List Value) (U : State) : Prop := EV D a e0 A U U.heap ∧ A q ∧ va_at D vwCl (q, .inr (0, fs)) U.heap
theorem lb_good {D : va_G} {a : Nat → ClassId} {e0 : Nat} {A : Nat → Prop} {q : Nat} {fs : List Value} : GB D a (LB0 D a e0 A q fs) := ⟨fun U h => h.1.1, fun U g mk z h => ⟨h.1.calling g mk z, h.2⟩⟩
def LPo (D : va_G) (a : Nat → ClassId) (q : Nat) (fs : List Value) : Heap → Option Value → Heap → Prop := fun H v H1 => v = none ∧ va_at D vwCl (q, .inr (0, fs)) H1 ∧ H1.size = H.size ∧ ∀ z, z ≠ q → H1[z]? = H[z]?
set_option maxRecDepth 100000 in
theorem k_AbsL (l : Launch) (D : va_G) (a : Nat → ClassId) (e0 : Nat) (A : Nat → Prop) (q : Nat) : KG l yJxc12de_init_da8c8 cJxc12de_init_da8c8 1 none 2 50 0 0 [.ref q] A (LB0 D a e0 A q [.int 0, .null, .int 0]) (LPo D a q [.int 0, .null, .int 0]) := by
  refine goGv (D := D) (a := a) (by decide +kernel) lb_good (Nat.le_of_ble_eq_true rfl) ?_
  intro p e s m args below meth c ls R Q hRf hRl hRc hRs C hB hl ret
  obtain ⟨hE, hAq, hat⟩ := hB
  have hl : lv_has ls 1 [(0, .ref q)] := hl
  have hx := C.1.1
  have hb := C.1.2.1
  refine lv_aload_n hx hb dJxc12de_init_da8c8_0 rfl (lv_at hl 0 rfl) ?_
  refine cg_I (av := []) (b := q) (A := A) C va_S.rf (k_Jxa1e45_init_da8c8 l D a A q) bk_good cwi_AbsC (okR_of hRf hRl (Nat.le_of_ble_eq_true rfl) (Nat.le_of_ble_eq_true rfl)) (fun U hU hW => va_K.moved hW.alike C.2) rfl rfl hl.1 (Nat.le_of_ble_eq_true rfl) (by rw [hRc]; exact Nat.le_refl _) (by rw [hRs]; exact Nat.le_refl _) dJxc12de_init_da8c8_1 (fun H1 locs1 v hS1 hP1 => ?_)
  obtain ⟨rfl, rfl⟩ := hP1
  refine lv_aload_n hx hb dJxc12de_init_da8c8_4 rfl (lv_at hl 0 rfl) ?_
  refine lv_iconst (v := 0) hx hb dJxc12de_init_da8c8_5 (by decide) ?_
  refine wx_put (D := D) (cl := vwCl) (tys := tyL a) (ci := 0) (ty := .int) (C := RJx4a65c) (T := TJx4a65c) (N := 3) hx hb C.1.2.2.2.2 tb_AL tyJx4a65c tyJx4a65c_ok nmJx4a65c C.1.2.2.2.1 C.2 hat rfl 0 (by decide) (C.1.2.2.2.2 _ q_74) (fun _ h9 => h9) rfl (by decide +kernel) rfl rfl (Nat.le_of_ble_eq_true rfl) dJxc12de_init_da8c8_6 (fun H2 locs2 e1 e2 e3 e4 => ?_)
  exact ret _ _ _ _ (e4 hAq hS1) dJxc12de_init_da8c8_9 ⟨rfl, e1, e2, e3⟩
set_option maxRecDepth 100000 in
theorem k_ArrL (l : Launch) (D : va_G) (a : Nat → ClassId) (e0 : Nat) (A : Nat → Prop) (q : Nat) : KG l yJx4a65c_init_da8c8 cJx4a65c_init_da8c8 1 none 3 70 0 0 [.ref q] A (LB0 D a e0 A q [.int 0, .null, .int 0]) (LPo D a q [.int 0, .ref e0, .int 0]) := by
  refine goGv (D := D) (a := a) (by decide +kernel) lb_good (Nat.le_of_ble_eq_true rfl) ?_
  intro p e s m args below meth c ls R Q hRf hRl hRc hRs C hB hl ret
  obtain ⟨hE, hAq, hat⟩ := hB
  have hl : lv_has ls 1 [(0, .ref q)] := hl
  have hx := C.1.1
  have hb := C.1.2.1
  refine lv_aload_n hx hb dJx4a65c_init_da8c8_0 rfl (lv_at hl 0 rfl) ?_
  refine cg_I (av := []) (b := q) (A := A) C va_S.rf (k_AbsL l D a e0 A q) lb_good cwi_AbsL (okR_of hRf hRl (Nat.le_of_ble_eq_true rfl) (Nat.le_of_ble_eq_true rfl)) (fun U hU hW => ⟨EV.at hE va_S.rf hW hU, hAq, by rw [hU]; exact hat⟩) rfl rfl hl.1 (Nat.le_of_ble_eq_true rfl) (by rw [hRc]; exact Nat.le_refl _) (by rw [hRs]; exact Nat.le_refl _) dJx4a65c_init_da8c8_1 (fun H1 locs1 v hS1 hP1 => ?_)
  obtain ⟨rfl, f1, f2, f3⟩ := hP1
  refine lv_aload_n hx hb dJx4a65c_init_da8c8_4 rfl (lv_at hl 0 rfl) ?_
  refine va_gets hx hb hE.2.2.2.2.2.2.2.1 hS1 C.1.2.2.2.1 (C.1.2.2.2.2 _ q_70) (fun _ h9 => h9) dJx4a65c_init_da8c8_5 ?_
  refine wx_put (D := D) (cl := vwCl) (tys := tyL a) (ci := 0) (ty := .array (.object "java/lang/Object")) (C := RJx4a65c) (T := TJx4a65c) (N := 3) hx hb C.1.2.2.2.2 tb_AL tyJx4a65c tyJx4a65c_ok nmJx4a65c C.1.2.2.2.1 C.2 f1 rfl 1 (by decide) (C.1.2.2.2.2 _ q_72) (fun _ h9 => h9) rfl (by decide +kernel) rfl rfl (Nat.le_of_ble_eq_true rfl) dJx4a65c_init_da8c8_8 (fun H2 locs2 e1 e2 e3 e4 => ?_)
  exact ret _ _ _ _ (e4 hAq hS1) dJx4a65c_init_da8c8_11 ⟨rfl, e1, e2.trans f2, fun z hz => (e3 z hz).trans (f3 z hz)⟩
end XINITL
/-- what lies behind the net: its lists, crossings, field and rows -/
def EN (a : Nat → ClassId) (e0 : Nat) : Nat → va_E := fun j => match j with
  | 4 => .inr (3, [.long 0, .long 0])
  | 5 => .inr (3, [.long 0, .long 0])
  | 8 => .inr (4, [.long 0, .long 0, .int 0, .int 0])
  | 10 => .inl (a 3, 10, .inr (.inr (.inr (.inr (fun _ => none)))))
  | 11 => .inl (a 0, 4, .inl (fun _ => 0))
  | 12 => .inl (a 0, 10, .inl (fun _ => 0))
  | _ => .inr (0, [.int 0, .ref e0, .int 0])
def NI (D : va_G) (a : Nat → ClassId) (x e0 i : Nat) (fs : List Value) (H : Heap) : Prop := H.size = x + (i + 1) ∧ va_at D vwCl (x, .inr (11, fs)) H ∧ fs.length = 14 ∧ ∀ j, j < i → va_at D vwCl (x + (j + 1), EN a e0 j) H
section XINITN
variable {p : Program} {l : Launch} {e : Env} {R : Room} {s : State} {m : MethodId} {args : Array Value} {below : List Frame} {meth : Method} {c : Code} {H : Heap} {locs : List Loc} {cells slots : Nat} {Q : State → Prop} {D : va_G} {a : Nat → ClassId} {x e0 : Nat} {cc : ByteArray} {nL pc : Nat} {ls : Array Slot} {rest : List Value} {fs : List Value} {i k idx : Nat}
theorem ni_put {v : Value} {ty : FieldType} (C : Cx D a p s m args c cc nL RX10) (hmn : meth.name = "<init>") (hI : NI D a x e0 i fs H) (hS : va_S (fun z => x ≤ z) s.heap H locs) (hk : k < 14) (hlink : Cond.fieldLink RX10 idx RX10 (TX10 k).2.1 (TX10 k).2.2.1 ∈ TB) (hd : parseFieldDescriptor (TX10 k).2.2.1 = some ty) (hn : narrow ty v = v) (hfit : fits ty v = true) (hd1 : (TX10 k).1 = RX10) (hdg : decode cc pc = .ok (.putfield idx, 3))
    (kk : ∀ H1 locs1, NI D a x e0 i (fs.set k v) H1 → va_S (fun z => x ≤ z) s.heap H1 locs1 → W p l e R s m args below meth c H1 locs1 cells slots Q (F0 m (pc + 3) ls rest)) : W p l e R s m args below meth c H locs cells slots Q (F0 m pc ls (v :: .ref x :: rest)) := by
  obtain ⟨h1, h2, h3, h4⟩ := hI
  have fin : ∀ (H1 : Heap) (locs1 : List Loc), va_at D vwCl (x, .inr (11, fs.set k v)) H1 → H1.size = H.size → (∀ z, z ≠ x → H1[z]? = H[z]?) → (∀ {A : Nat → Prop} {H0 : Heap}, A x → va_S A H0 H locs → va_S A H0 H1 locs1) → W p l e R s m args below meth c H1 locs1 cells slots Q (F0 m (pc + 3) ls rest) := by
    intro H1 locs1 e1 e2 e3 e4
    exact kk H1 locs1 ⟨by rw [e2]; exact h1, e1, by rw [List.length_set]; exact h3, fun j hj => (h4 j hj).kept (e3 _ (by show x + (j + 1) ≠ x; omega))⟩ (e4 (A := fun z => x ≤ z) (Nat.le_refl x) hS)
  by_cases hf : (TX10 k).2.2.2 = true
  · exact wx_putF (D := D) (cl := vwCl) (tys := tyL a) (ci := 11) (ty := ty) (C := RX10) (T := TX10) (N := 14) C.1.1 C.1.2.1 C.1.2.2.2.2 tb_X10 tyX10 tyX10_ok nmX10 C.1.2.2.2.1 C.2 h2 rfl k hk (C.1.2.2.2.2 _ hlink) (fun _ h9 => by rw [hd1] at h9; exact h9) hf hmn hd1 hd hn hfit (by rw [h3]; exact hk) hdg fin
  · exact wx_put (D := D) (cl := vwCl) (tys := tyL a) (ci := 11) (ty := ty) (C := RX10) (T := TX10) (N := 14) C.1.1 C.1.2.1 C.1.2.2.2.2 tb_X10 tyX10 tyX10_ok nmX10 C.1.2.2.2.1 C.2 h2 rfl k hk (C.1.2.2.2.2 _ hlink) (fun _ h9 => by rw [hd1] at h9; exact h9) (by simpa using hf) hd hn hfit (by rw [h3]; exact hk) hdg fin
theorem ni_up {H1 : Heap} (hI : NI D a x e0 i fs H) (z1 : H1.size = H.size + 1) (o1 : ∀ z, z < H.size → H1[z]? = H[z]?) (e1 : va_at D vwCl (x + (i + 1), EN a e0 i) H1) : NI D a x e0 (i + 1) fs H1 := by
  obtain ⟨h1, h2, h3, h4⟩ := hI
  refine ⟨by rw [z1]; omega, h2.kept (o1 x (by omega)), h3, fun j hj => ?_⟩
  by_cases hji : j = i
  · subst hji
    exact e1
  · exact (h4 j (by omega)).kept (o1 _ (by show x + (j + 1) < H.size; omega))
theorem ns_up {H1 : Heap} (hI : NI D a x e0 i fs H) (hS : va_S (fun z => x ≤ z) s.heap H locs) (z1 : H1.size = H.size + 1) (o1 : ∀ z, z < H.size → H1[z]? = H[z]?) : va_S (fun z => x ≤ z) s.heap H1 locs :=
  ⟨Nat.le_trans hS.1 (by rw [z1]; omega), fun z hz hA => (o1 z (by have := hS.1; omega)).trans (hS.2.1 z hz hA), hS.2.2⟩
theorem ni_list (C : Cx D a p s m args c cc nL RX10) (hmn : meth.name = "<init>") (hE : EV D a e0 (fun z => x ≤ z) s s.heap) (hRf : R.frames = 8) (hRl : R.locals = 156) (hsz : ls.size = nL) (hr : rest = []) (hI : NI D a x e0 i fs H) (hS : va_S (fun z => x ≤ z) s.heap H locs) (hen : EN a e0 i = .inr (0, [.int 0, .ref e0, .int 0])) (hk : k < 14) (hlink : Cond.fieldLink RX10 idx RX10 (TX10 k).2.1 (TX10 k).2.2.1 ∈ TB) (hd : parseFieldDescriptor (TX10 k).2.2.1 = some (.object "java/util/List")) (hd1 : (TX10 k).1 = RX10) (hc : cells + 1 ≤ R.cells) (hs : slots + 3 ≤ R.slots) (d0 : decode cc pc = .ok (.new 7, 3)) (d1 : decode cc (pc + 3) = .ok (.dup, 1)) (d2 : decode cc (pc + 3 + 1) = .ok (.invokespecial 9, 3)) (d3 : decode cc (pc + 3 + 1 + 3) = .ok (.putfield idx, 3))
    (kk : ∀ H1 locs1, NI D a x e0 (i + 1) (fs.set k (.ref (x + (i + 1)))) H1 → va_S (fun z => x ≤ z) s.heap H1 locs1 → W p l e R s m args below meth c H1 locs1 (cells + 1) (slots + 3) Q (F0 m (pc + 3 + 1 + 3 + 3) ls rest)) : W p l e R s m args below meth c H locs cells slots Q (F0 m pc ls (.ref x :: rest)) := by
  subst hr
  refine wx_new (D := D) (cl := vwCl) (tys := tyL a) (ci := 0) (C := RJx4a65c) (T := TJx4a65c) (N := 3) (fs := [.int 0, .null, .int 0]) C.1.1 C.1.2.1 C.1.2.2.2.2 tb_AL tyJx4a65c tyJx4a65c_ok C.1.2.2.2.1 (C.1.2.2.2.2 _ q_58) (C.1.2.2.2.2 _ q_59) (C.1.2.2.2.2 _ q_29) C.2 rfl ?_ hc hs d0 (fun H1 e1 z1 o1 => ?_)
  · intro j hj
    rcases (show j = 0 ∨ j = 1 ∨ j = 2 by omega) with rfl | rfl | rfl <;> rfl
  · have hq : H.size = x + (i + 1) := hI.1
    rw [hq] at e1 ⊢
    have hS1 := ns_up hI hS z1 o1
    refine lv_dup C.1.1 C.1.2.1 d1 rfl ?_
    refine cg_I (av := []) (b := x + (i + 1)) C hS1 (k_ArrL l D a e0 (fun z => x ≤ z) (x + (i + 1))) lb_good cwi_ArrL (okR_of hRf hRl (Nat.le_of_ble_eq_true rfl) (Nat.le_of_ble_eq_true rfl)) (fun U hU hW => ⟨EV.at hE hS1 hW hU, by show x ≤ x + (i + 1); omega, by rw [hU]; exact e1⟩) rfl rfl hsz (Nat.le_of_ble_eq_true rfl) hc hs d2 (fun H2 locs2 v hS2 hP2 => ?_)
    obtain ⟨rfl, f1, f2, f3⟩ := hP2
    have hI2 : NI D a x e0 (i + 1) fs H2 := by
      have := ni_up (H1 := H2) hI (by rw [f2]; exact z1) (fun z hz => (f3 z (by omega)).trans (o1 z hz)) (by rw [hen]; exact f1)
      exact this
    exact ni_put C hmn hI2 hS2 hk hlink hd rfl rfl hd1 d3 kk
theorem ni_obj {nm : String} {T : u_T} {N K ic ik : Nat} {y : MethodName} {bytes : ByteArray} {fb : List Value} {tn : String} (ty : Nat → FieldType) (hin : ∀ w ∈ u_ws nm T N, w ∈ TB) (hty : ∀ k, k < N → parseFieldDescriptor (T k).2.2.1 = some (ty k)) (hcl : Cond.classLink RX10 ic nm ∈ TB) (hinst : Cond.instantiable nm N ∈ TB) (hini : Cond.initialized nm ∈ TB) (hcK : vwCl[K]? = some (nm, T, N)) (hfs : ∀ j, j < N → defaultValue (ty j) = vp_V fb j) (hKi : KG l y bytes 1 none 1 30 0 0 [.ref (x + (i + 1))] (fun z => x ≤ z) (BK D a) PN) (cw : CWIZ RX10 "FireNet" ik y bytes 1 0)
    (C : Cx D a p s m args c cc nL RX10) (hmn : meth.name = "<init>") (hE : EV D a e0 (fun z => x ≤ z) s s.heap) (hRf : R.frames = 8) (hRl : R.locals = 156) (hsz : ls.size = nL) (hr : rest = []) (hI : NI D a x e0 i fs H) (hS : va_S (fun z => x ≤ z) s.heap H locs) (hen : EN a e0 i = .inr (K, fb)) (hk : k < 14) (hlink : Cond.fieldLink RX10 idx RX10 (TX10 k).2.1 (TX10 k).2.2.1 ∈ TB) (hd : parseFieldDescriptor (TX10 k).2.2.1 = some (.object tn)) (hd1 : (TX10 k).1 = RX10) (hc : cells + 1 ≤ R.cells) (hs : slots + N ≤ R.slots) (d0 : decode cc pc = .ok (.new ic, 3)) (d1 : decode cc (pc + 3) = .ok (.dup, 1)) (d2 : decode cc (pc + 3 + 1) = .ok (.invokespecial ik, 3)) (d3 : decode cc (pc + 3 + 1 + 3) = .ok (.putfield idx, 3))
    (kk : ∀ H1 locs1, NI D a x e0 (i + 1) (fs.set k (.ref (x + (i + 1)))) H1 → va_S (fun z => x ≤ z) s.heap H1 locs1 → W p l e R s m args below meth c H1 locs1 (cells + 1) (slots + N) Q (F0 m (pc + 3 + 1 + 3 + 3) ls rest)) : W p l e R s m args below meth c H locs cells slots Q (F0 m pc ls (.ref x :: rest)) := by
  subst hr
  refine wx_new (D := D) (cl := vwCl) (tys := tyL a) (ci := K) (C := nm) (T := T) (N := N) (fs := fb) C.1.1 C.1.2.1 C.1.2.2.2.2 hin ty hty C.1.2.2.2.1 (C.1.2.2.2.2 _ hcl) (C.1.2.2.2.2 _ hinst) (C.1.2.2.2.2 _ hini) C.2 hcK hfs hc hs d0 (fun H1 e1 z1 o1 => ?_)
  have hq : H.size = x + (i + 1) := hI.1
  rw [hq] at e1 ⊢
  have hS1 := ns_up hI hS z1 o1
  refine lv_dup C.1.1 C.1.2.1 d1 rfl ?_
  refine cg_IN (av := []) (b := x + (i + 1)) C hE hS1 hKi bk_good cw (okR_of hRf hRl (Nat.le_of_ble_eq_true rfl) (Nat.le_of_ble_eq_true rfl)) (fun U hU hW => va_K.moved hW.alike C.2) rfl rfl hsz (Nat.le_of_ble_eq_true rfl) hc hs d2 (fun H2 locs2 v hS2 hP2 => ?_)
  obtain ⟨rfl, rfl⟩ := hP2
  exact ni_put C hmn (ni_up hI z1 o1 (by rw [hen]; exact e1)) hS2 hk hlink hd rfl rfl hd1 d3 kk
theorem ni_arrI {N : Nat} (C : Cx D a p s m args c cc nL RX10) (hmn : meth.name = "<init>") (hI : NI D a x e0 i fs H) (hS : va_S (fun z => x ≤ z) s.heap H locs) (hen : EN a e0 i = .inl (a 0, N, .inl (fun _ => 0))) (hN : N ≤ 100) (hk : k < 14) (hlink : Cond.fieldLink RX10 idx RX10 (TX10 k).2.1 (TX10 k).2.2.1 ∈ TB) (hd : parseFieldDescriptor (TX10 k).2.2.1 = some (.array .int)) (hd1 : (TX10 k).1 = RX10) (hc : cells + 1 ≤ R.cells) (hs : slots + N ≤ R.slots) (d0 : decode cc pc = .ok (.newarray .int, 2)) (d3 : decode cc (pc + 2) = .ok (.putfield idx, 3))
    (kk : ∀ H1 locs1, NI D a x e0 (i + 1) (fs.set k (.ref (x + (i + 1)))) H1 → va_S (fun z => x ≤ z) s.heap H1 locs1 → W p l e R s m args below meth c H1 locs1 (cells + 1) (slots + N) Q (F0 m (pc + 2 + 3) ls rest)) : W p l e R s m args below meth c H locs cells slots Q (F0 m pc ls (.int (nI N) :: .ref x :: rest)) := by
  refine va_newaK (atype := .int) C.1.1 C.1.2.1 (C.1.2.2.2.2 _ q_170) rfl d0 rfl (nI_pos (by omega)) (nI_clamp (by omega)) (by show N * 4 ≤ _; omega) hc hs hI.1 (fun H1 cA e1 z1 o1 _ hNm => ?_)
  have hcA := mi_cell (t := 0) (ty := .int) C rfl (fun _ h => by cases h) hNm
  subst hcA
  exact ni_put C hmn (ni_up hI (by rw [z1, hI.1]) (fun z hz => o1 z (by rw [← hI.1]; exact hz)) (by rw [hen]; exact e1)) (ns_up hI hS (by rw [z1, hI.1]) (fun z hz => o1 z (by rw [← hI.1]; exact hz))) hk hlink hd rfl rfl hd1 d3 kk
theorem ni_arrR (hAO : va_AO "FireNet$Rule" s) (C : Cx D a p s m args c cc nL RX10) (hmn : meth.name = "<init>") (hI : NI D a x e0 i fs H) (hS : va_S (fun z => x ≤ z) s.heap H locs) (hen : EN a e0 i = .inl (a 3, 10, .inr (.inr (.inr (.inr (fun _ => none)))))) (hk : k < 14) (hlink : Cond.fieldLink RX10 idx RX10 (TX10 k).2.1 (TX10 k).2.2.1 ∈ TB) (hd : parseFieldDescriptor (TX10 k).2.2.1 = some (.array (.object "FireNet$Rule"))) (hd1 : (TX10 k).1 = RX10) (hcl : Cond.classLink RX10 55 "FireNet$Rule" ∈ TB) (hc : cells + 1 ≤ R.cells) (hs : slots + 10 ≤ R.slots) (d0 : decode cc pc = .ok (.anewarray 55, 3)) (d3 : decode cc (pc + 3) = .ok (.putfield idx, 3))
    (kk : ∀ H1 locs1, NI D a x e0 (i + 1) (fs.set k (.ref (x + (i + 1)))) H1 → va_S (fun z => x ≤ z) s.heap H1 locs1 → W p l e R s m args below meth c H1 locs1 (cells + 1) (slots + 10) Q (F0 m (pc + 3 + 3) ls rest)) : W p l e R s m args below meth c H locs cells slots Q (F0 m pc ls (.int 10 :: .ref x :: rest)) := by
  refine W.anew C.1.1 C.1.2.1 C.1.2.2.2.1 (C.1.2.2.2.2 _ hcl) (va_AO.use hAO) rfl d0 rfl (by decide) (by decide) hc hs (fun cA kA comp f1 f2 f3 f4 => ?_)
  have hcA : cA = a 3 := by
    obtain ⟨-, -, -, -, -, -, h4⟩ := C.2.2 3 _ rfl
    exact Option.some.inj (f1.symm.trans h4)
  subst hcA
  have hq := hI.1
  generalize hH1 : H.push ({ cls := a 3, slots := Array.replicate (10 : Int32).toNatClampNeg .null, vm := .none } : Cell) = H1
  have z1 : H1.size = H.size + 1 := by rw [← hH1, Array.size_push]
  have e1 : H1[H.size]? = some (arrV (a 3) (10 : Int32).toNatClampNeg (fun _ => .null)) := by rw [← hH1, Array.getElem?_push_size, ← arrV_new]
  have o1 : ∀ q : Nat, q < H.size → H1[q]? = H[q]? := fun q hq => by rw [← hH1, Array.getElem?_push, if_neg (Nat.ne_of_lt hq)]
  rw [hq] at e1 ⊢
  exact ni_put C hmn (ni_up hI z1 o1 (by rw [hen]; exact e1)) (ns_up hI hS z1 o1) hk hlink hd rfl rfl hd1 d3 kk
end XINITN

