/-! ===== java.util.ArrayList: add ===== -/
section JDKG
variable {p : Program} {l : Launch} {e : Env} {R : Room} {s : State} {m : MethodId} {args : Array Value} {below : List Frame} {meth : Method} {c : Code} {H : Heap} {locs : List Loc} {cells slots : Nat} {Q : State → Prop} {D : va_G} {a : Nat → ClassId} {e0 : Nat} {A : Nat → Prop} {cc : ByteArray} {nL : Nat} {pc : Nat} {ls : Array Slot} {rest st : List Value} {own C : String} {idx : Nat} {y : MethodName} {bytes : ByteArray} {maxL n fr lo mc ms : Nat} {ret : Option FieldType} {rt : FieldType} {av : List Value} {b : Nat}
def KG (l : Launch) (y : MethodName) (bytes : ByteArray) (maxL : Nat) (ret : Option FieldType) (fr lo mc ms : Nat) (av : List Value) (A : Nat → Prop) (B : State → Prop) (P : Heap → Option Value → Heap → Prop) : Prop :=
  Met l y (.code y bytes maxL ret :: TB) { frames := fr, cells := mc, slots := ms, locals := lo } (va_Pc av B) (fun _ st oc t => (∃ v, oc = .returned v ∧ P st.heap v t.heap) ∧ va_F A st t) mc ms A
/-- what a precondition must stand: a call's frame, warmer tables -/
def GB (D : va_G) (a : Nat → ClassId) (B : State → Prop) : Prop := (∀ U, B U → va_K D vwCl (tyL a) U) ∧ (∀ (U : State) (g : JFrame) (mk : MethodId) (z : Array Value), B U → B (U.calling g mk z))
abbrev GoG (l : Launch) (D : va_G) (a : Nat → ClassId) (y : MethodName) (bytes : ByteArray) (maxL fr lo mc ms : Nat) (av : List Value) (A : Nat → Prop) (B : State → Prop) (ret : Program → State → MethodId → Array Value → List Frame → Method → Code → Env → Room → (State → Prop) → Prop) : Prop :=
  ∀ (p : Program) (e : Env) (s : State) (m : MethodId) (args : Array Value) (below : List Frame) (meth : Method) (c : Code) (ls : Array Slot) (R : Room) (Q : State → Prop), R.frames = fr → R.locals = lo → R.cells = mc → R.slots = ms → Cx D a p s m args c bytes maxL y.cls → B s → lv_has ls maxL (lv_args 0 av) → ret p s m args below meth c e R Q → W p l e R s m args below meth c s.heap [] 0 0 Q (F0 m 0 ls [])
theorem goGa {B : State → Prop} {P : Heap → Option Value → Heap → Prop} (hy : plainName y.cls = true) (hB : GB D a B) (hrt : (∃ n, rt = .object n) ∨ ∃ t, rt = .array t) (hlen : (lg_sl av).length ≤ maxL)
    (body : GoG l D a y bytes maxL fr lo mc ms av A B (fun p s m args below meth c e R Q => ∀ (pc : Nat) (ls : Array Slot) (H : Heap) (locs : List Loc) (v : Nat), va_S A s.heap H locs → decode bytes pc = .ok (.areturn, 1) → P s.heap (some (.ref v)) H → W p l e R s m args below meth c H locs mc ms Q (F0 m pc ls [.ref v]))) : KG l y bytes maxL (some rt) fr lo mc ms av A B P := by
  refine Met.ofW (cc := bytes) (maxL := maxL) (ret := some rt) hy rfl ?_
  intro p e s m args below meth c s₁ B' hml hv
  obtain ⟨rfl, hP⟩ := hv
  have C : Cx D a p s m av.toArray c bytes maxL y.cls := ⟨⟨B'.exec, B'.bytes, hml, findClass_of_methodNamed B'.named, fun w h => atoms_spec (ws := .code y bytes maxL (some rt) :: TB) B'.pre w (List.mem_cons_of_mem _ h)⟩, hB.1 _ hP⟩
  have hl := lv_entry av (n := maxL) hlen
  have hr := B'.returns
  have hk := B'.notSynchronized
  rw [lg_entry_eq]
  refine body p e s m _ below meth c _ _ _ rfl rfl rfl rfl C hP hl ?_
  intro pc ls H locs v hS hdg hQ
  exact W.aret C.1.1 C.1.2.1 hr hrt (Or.inr ⟨_, rfl⟩) (fun t ht _ => ⟨⟨_, rfl, by rw [ht]; exact hQ⟩, hS.F ht⟩) hS.2.2 hdg hk
theorem goGz {B : State → Prop} {P : Heap → Option Value → Heap → Prop} (hy : plainName y.cls = true) (hB : GB D a B) (hlen : (lg_sl av).length ≤ maxL)
    (body : GoG l D a y bytes maxL fr lo mc ms av A B (fun p s m args below meth c e R Q => ∀ (pc : Nat) (ls : Array Slot) (H : Heap) (locs : List Loc) (v : Int32), va_S A s.heap H locs → decode bytes pc = .ok (.ireturn, 1) → zb v → P s.heap (some (.int v)) H → W p l e R s m args below meth c H locs mc ms Q (F0 m pc ls [.int v]))) : KG l y bytes maxL (some .boolean) fr lo mc ms av A B P := by
  refine Met.ofW (cc := bytes) (maxL := maxL) (ret := some .boolean) hy rfl ?_
  intro p e s m args below meth c s₁ B' hml hv
  obtain ⟨rfl, hP⟩ := hv
  have C : Cx D a p s m av.toArray c bytes maxL y.cls := ⟨⟨B'.exec, B'.bytes, hml, findClass_of_methodNamed B'.named, fun w h => atoms_spec (ws := .code y bytes maxL (some .boolean) :: TB) B'.pre w (List.mem_cons_of_mem _ h)⟩, hB.1 _ hP⟩
  have hl := lv_entry av (n := maxL) hlen
  have hr := B'.returns
  have hk := B'.notSynchronized
  rw [lg_entry_eq]
  refine body p e s m _ below meth c _ _ _ rfl rfl rfl rfl C hP hl ?_
  intro pc ls H locs v hS hdg hz hQ
  exact W.zret C.1.1 C.1.2.1 hr (zb_nar hz) (fun t ht _ => ⟨⟨_, rfl, by rw [ht]; exact hQ⟩, hS.F ht⟩) hS.2.2 hdg hk
theorem goGv {B : State → Prop} {P : Heap → Option Value → Heap → Prop} (hy : plainName y.cls = true) (hB : GB D a B) (hlen : (lg_sl av).length ≤ maxL)
    (body : GoG l D a y bytes maxL fr lo mc ms av A B (fun p s m args below meth c e R Q => ∀ (pc : Nat) (ls : Array Slot) (H : Heap) (locs : List Loc), va_S A s.heap H locs → decode bytes pc = .ok (.return_, 1) → P s.heap none H → W p l e R s m args below meth c H locs mc ms Q (F0 m pc ls []))) : KG l y bytes maxL none fr lo mc ms av A B P := by
  refine Met.ofW (cc := bytes) (maxL := maxL) (ret := none) hy rfl ?_
  intro p e s m args below meth c s₁ B' hml hv
  obtain ⟨rfl, hP⟩ := hv
  have C : Cx D a p s m av.toArray c bytes maxL y.cls := ⟨⟨B'.exec, B'.bytes, hml, findClass_of_methodNamed B'.named, fun w h => atoms_spec (ws := .code y bytes maxL none :: TB) B'.pre w (List.mem_cons_of_mem _ h)⟩, hB.1 _ hP⟩
  have hl := lv_entry av (n := maxL) hlen
  have hr := B'.returns
  have hk := B'.notSynchronized
  rw [lg_entry_eq]
  refine body p e s m _ below meth c _ _ _ rfl rfl rfl rfl C hP hl ?_
  intro pc ls H locs hS hdg hQ
  exact W.vret C.1.1 C.1.2.1 hr (fun t ht _ => ⟨⟨_, rfl, by rw [ht]; exact hQ⟩, hS.F ht⟩) hS.2.2 hdg hk
theorem cg_V {B : State → Prop} {P : Heap → Option Value → Heap → Prop} (C0 : Cx D a p s m args c cc nL own) (hS : va_S A s.heap H locs) (hK : KG l y bytes maxL ret fr lo mc ms (.ref b :: av) A B P) (hG : GB D a B) (cw : CWV own C idx y bytes maxL ret n) (hR : okR R maxL fr lo) (hrc : ∃ cellB : Cell, H[b]? = some cellB ∧ cellB.vm.isStatics = false ∧ s.vm.findClass C = some cellB.cls) (hB : ∀ U : State, U.heap = H → s.WarmedH U.vm → B U)
    (hst : st = av.reverse ++ .ref b :: rest) (hn : av.length = n) (hsz : ls.size = nL) (hW : (rest.map fun v => v.category).sum ≤ 8) (hc : cells + mc ≤ R.cells) (hs : slots + ms ≤ R.slots) (hdg : decode cc pc = .ok (.invokevirtual idx, 3))
    (kk : ∀ H1 locs1 v, va_S A s.heap H1 locs1 → P H v H1 → W p l e R s m args below meth c H1 locs1 (cells + mc) (slots + ms) Q (F0 m (pc + 3) ls (v.toList ++ rest))) : W p l e R s m args below meth c H locs cells slots Q (F0 m pc ls st) := by
  have hrun := va_runV (mc := mc) (ms := ms) (R := R) (e := e) (below := below) (meth := meth) (H := H) (locs := locs) (cells := cells) (slots := slots) (g := F0 m pc ls st) (As := av) (rest := rest) (b := b) C0.1 hK (cwv_of cw C0.1.2.2.2.2 hR) ⟨fun z U g mk q => ⟨q.1, hG.2 U g mk z q.2⟩, hrc, fun U hU hW => ⟨rfl, hB U hU hW⟩⟩ rfl hn hsz hst (lv_room hW) hdg ⟨hc, hs⟩
  intro T hT X
  obtain ⟨v', st₀, t, T', L, h0, X', hL, e1, e2, ⟨⟨v, hv, hP⟩, hF⟩, stp⟩ := hrun T hT X
  cases hv
  obtain ⟨t2, a1, b1⟩ := kk T'.heap (locs ++ L) v' (vx_keep (A1 := A) h0 e1 hS (fun q _ h => h) (fun q h => h) hL hF).2.2 (by rw [e1, ← h0]; exact hP) T' rfl X'
  exact ⟨t2, stp t2 a1, b1⟩
theorem cg_S {B : State → Prop} {P : Heap → Option Value → Heap → Prop} (C0 : Cx D a p s m args c cc nL own) (hS : va_S A s.heap H locs) (hK : KG l y bytes maxL ret fr lo mc ms av A B P) (hG : GB D a B) (cw : CWS own idx y bytes maxL ret n) (hR : okR R maxL fr lo) (hB : ∀ U : State, U.heap = H → s.WarmedH U.vm → B U)
    (hst : st = av.reverse ++ rest) (hn : av.length = n) (hsz : ls.size = nL) (hW : (rest.map fun v => v.category).sum ≤ 8) (hc : cells + mc ≤ R.cells) (hs : slots + ms ≤ R.slots) (hdg : decode cc pc = .ok (.invokestatic idx, 3))
    (kk : ∀ H1 locs1 v, va_S A s.heap H1 locs1 → P H v H1 → W p l e R s m args below meth c H1 locs1 (cells + mc) (slots + ms) Q (F0 m (pc + 3) ls (v.toList ++ rest))) : W p l e R s m args below meth c H locs cells slots Q (F0 m pc ls st) := by
  have hrun := va_runS (mc := mc) (ms := ms) (R := R) (e := e) (below := below) (meth := meth) (H := H) (locs := locs) (cells := cells) (slots := slots) (g := F0 m pc ls st) (As := av) (rest := rest) C0.1 hK (cws_of cw C0.1.2.2.2.2 hR) ⟨fun z U g mk q => ⟨q.1, hG.2 U g mk z q.2⟩, fun U hU hW => ⟨rfl, hB U hU hW⟩⟩ rfl hn hsz hst (lv_room hW) hdg ⟨hc, hs⟩
  intro T hT X
  obtain ⟨v', st₀, t, T', L, h0, X', hL, e1, e2, ⟨⟨v, hv, hP⟩, hF⟩, stp⟩ := hrun T hT X
  cases hv
  obtain ⟨t2, a1, b1⟩ := kk T'.heap (locs ++ L) v' (vx_keep (A1 := A) h0 e1 hS (fun q _ h => h) (fun q h => h) hL hF).2.2 (by rw [e1, ← h0]; exact hP) T' rfl X'
  exact ⟨t2, stp t2 a1, b1⟩
theorem va_D1 {q : Nat} {en : va_E} (h : A q) : va_D A [(q, en)] := by
  refine ⟨fun i j p q hi hj _ => ?_, fun k z hk => ?_⟩
  · have h1 : i < 1 := (List.getElem?_eq_some_iff.mp hi).1
    have h2 : j < 1 := (List.getElem?_eq_some_iff.mp hj).1
    omega
  · have h1 : k < 1 := (List.getElem?_eq_some_iff.mp hk).1
    rw [show k = 0 by omega] at hk
    cases hk
    exact h
theorem va_S_up {A1 : Nat → Prop} {H0 : Heap} (h : va_S A1 H0 H locs) (hA : ∀ q, A1 q → A q) : va_S A H0 H locs := ⟨h.1, fun q h1 h2 => h.2.1 q h1 (fun z => h2 (hA q z)), fun q hq => hA _ (h.2.2 q hq)⟩
/-- an element: an object of the class nm, and not the list -/
def EL (nm : String) (q : Nat) (U : State) (H : Heap) (v : Nat) : Prop := v ≠ q ∧ ∃ cellV : Cell, H[v]? = some cellV ∧ cellV.vm.isStatics = false ∧ U.vm.findClass nm = some cellV.cls
theorem EL.moved {nm : String} {q v : Nat} {u U : State} {H : Heap} (hvm : u.vm.Alike U.vm) (h : EL nm q u H v) : EL nm q U H v := by
  obtain ⟨h0, cell, h1, h2, h3⟩ := h
  exact ⟨h0, cell, h1, h2, by rw [hvm.findClass]; exact h3⟩
theorem EL.kept {nm : String} {q v : Nat} {U : State} {H H1 : Heap} (h : EL nm q U H v) (hq : H1[v]? = H[v]?) : EL nm q U H1 v := by
  obtain ⟨h0, cell, h1, h2, h3⟩ := h
  exact ⟨h0, cell, by rw [hq]; exact h1, h2, h3⟩
theorem EL.lt {nm : String} {q v : Nat} {U : State} {H : Heap} (h : EL nm q U H v) : v < H.size := by
  obtain ⟨h0, cell, h1, -⟩ := h
  exact (Array.getElem?_eq_some_iff.mp h1).1
/-- a row of references is written, the rest of the heap is as it was -/
theorem wx_aast (C0 : Cx D a p s m args c cc nL own) {r cap : Nat} {g : Nat → Option Nat} {nm : String} {q v : Nat} {i : Int32} (hE : EV D a e0 A s s.heap) (hnb : Cond.castable nm "java/lang/Object" ∈ NBW) (har : va_at D vwCl (arE a r cap g) H) (hel : EL nm q s H v) (hin : vp_in i cap) (hdg : decode cc pc = .ok (.aastore, 1))
    (kk : ∀ (H1 : Heap) (locs1 : List Loc), va_at D vwCl (arE a r cap (va_up g i.toNatClampNeg (some v))) H1 → H1.size = H.size → (∀ z, z ≠ r → H1[z]? = H[z]?) → (∀ {A : Nat → Prop} {H0 : Heap}, A r → va_S A H0 H locs → va_S A H0 H1 locs1) → W p l e R s m args below meth c H1 locs1 cells slots Q (F0 m (pc + 1) ls rest)) : W p l e R s m args below meth c H locs cells slots Q (F0 m pc ls (.ref v :: .int i :: .ref r :: rest)) := by
  have hlt : i.toNatClampNeg < cap := Nat.not_le.mp fun q => hin (Or.inr q)
  have h0 : ¬ i < 0 := fun q => hin (Or.inl q)
  obtain ⟨-, cellV, g1, g3, g2⟩ := hel
  obtain ⟨-, kA, comp, k1, k2, k3, -⟩ := C0.2.2 4 _ rfl
  obtain ⟨kE, hkE, -⟩ := Vm.findClass_spec k3
  obtain ⟨kC, hkC, -⟩ := Vm.findClass_spec g2
  obtain ⟨c0, t1, f1, f2, f3⟩ := Cond.castable_spec (va_Nw.use (A := args) rfl (hE.2.1 _ hnb))
  cases g2.symm.trans f1
  cases k3.symm.trans f2
  refine W.aast (cell := vp_cell (a 4) (cap, .inr (.inr (.inr (.inr g))))) (t := .object "java/lang/Object") C0.1.1 C0.1.2.1 har (fun q h => by cases q <;> cases h) (fun q => by cases q) k1 k2 rfl hkE (by show ¬ i < 0 ∧ _ < (arrV _ _ _).slots.size; rw [arrV_size]; exact ⟨h0, hlt⟩) g1 (fun q h => by rw [h] at g3; exact Bool.noConfusion (show true = false from g3)) hkC f3 rfl rfl hdg fun H1 e z oq => ?_
  refine kk H1 _ ?_ z oq (fun hA hS => hS.put z oq hA)
  show H1[r]? = some (vp_cell _ _)
  rw [e]
  rw [vp_cell_q, vp_cell_q, arrV_store]
  congr 2
  funext j
  by_cases hq : j = i.toNatClampNeg
  · subst hq
    simp [updV, va_up, va_rf]
  · simp [updV, va_up, hq]
end JDKG
theorem q_222 : Cond.native ⟨"java/lang/Object", "getClass", "()Ljava/lang/Class;"⟩ ∈ TB := tb_in 222 (by decide +kernel) (by decide +kernel)
theorem q_234 : Cond.native ⟨"java/lang/System", "arraycopy", "(Ljava/lang/Object;ILjava/lang/Object;II)V"⟩ ∈ TB := tb_in 234 (by decide +kernel) (by decide +kernel)
theorem jw_min : CWS RJ7 304 yJ9_min_7cf53 cJ9_min_7cf53 2 (some .int) 2 := ⟨q_229, q_230, q_34, q_231, by decide +kernel, by decide +kernel, by decide +kernel⟩
theorem jw_maxA : CWS RJx4a65c 79 yJ9_max_7cf53 cJ9_max_7cf53 2 (some .int) 2 := ⟨q_235, q_197, q_34, q_198, by decide +kernel, by decide +kernel, by decide +kernel⟩
theorem jw_maxS : CWS RJ8 194 yJ9_max_7cf53 cJ9_max_7cf53 2 (some .int) 2 := ⟨q_196, q_197, q_34, q_198, by decide +kernel, by decide +kernel, by decide +kernel⟩
theorem jw_newL : CWS RJx4a65c 73 yJ8_newLength_cabcc cJ8_newLength_cabcc 4 (some .int) 3 := ⟨q_193, q_194, q_33, q_195, by decide +kernel, by decide +kernel, by decide +kernel⟩
theorem jw_cop2 : CWS RJx4a65c 66 yJ7_copyOf_1904c cJ7_copyOf_1904c 2 (some (.array (.object "java/lang/Object"))) 2 := ⟨q_203, q_204, q_35, q_205, by decide +kernel, by decide +kernel, by decide +kernel⟩
theorem jw_cop3 : CWS RJ7 300 yJ7_copyOf_6403c cJ7_copyOf_6403c 4 (some (.array (.object "java/lang/Object"))) 3 := ⟨q_223, q_224, q_35, q_225, by decide +kernel, by decide +kernel, by decide +kernel⟩
theorem jw_add3 : CWV RJx4a65c RJx4a65c 131 yJx4a65c_add_72be8 cJx4a65c_add_72be8 4 none 3 := ⟨q_181, q_183, q_0, q_29, q_184, rfl, by decide +kernel, by decide +kernel, by decide +kernel⟩
theorem jw_grow0 : CWV RJx4a65c RJx4a65c 129 yJx4a65c_grow_d5877 cJx4a65c_grow_d5877 1 (some (.array (.object "java/lang/Object"))) 0 := ⟨q_185, q_187, q_1, q_29, q_188, rfl, by decide +kernel, by decide +kernel, by decide +kernel⟩
theorem jw_grow1 : CWV RJx4a65c RJx4a65c 69 yJx4a65c_grow_92f84 cJx4a65c_grow_92f84 4 (some (.array (.object "java/lang/Object"))) 1 := ⟨q_189, q_191, q_2, q_29, q_192, rfl, by decide +kernel, by decide +kernel, by decide +kernel⟩
section JDK2
variable {l : Launch} {D : va_G} {a : Nat → ClassId} {A : Nat → Prop} {e0 : Nat}
theorem jmin_le {a b : Nat} (h : a ≤ b) (hb : b < 2 ^ 31) : f_J9_min_7cf53 (nI a) (nI b) = nI a := by
  unfold f_J9_min_7cf53
  rw [if_neg (nI_nlt h hb)]
set_option maxRecDepth 100000 in
theorem j_newL (l : Launch) (D : va_G) (a : Nat → ClassId) (o mg pg : Int32) (h1 : ¬ o + f_J9_max_7cf53 mg pg ≤ 0) (h2 : ¬ 2147483639 < o + f_J9_max_7cf53 mg pg) : K0 l yJ8_newLength_cabcc cJ8_newLength_cabcc 4 (some .int) 1 21 [.int o, .int mg, .int pg] (BK D a) (.int (o + f_J9_max_7cf53 mg pg)) := by
  refine go0i (D := D) (a := a) (by decide +kernel) (fun _ h => h) (Nat.le_of_ble_eq_true rfl) ?_
  intro p e s m args below meth c ls R Q hRf hRl C hl hB
  obtain ⟨hB, ret⟩ := hB
  have hl : lv_has ls 4 [(0, .int o), (1, .int mg), (2, .int pg)] := hl
  have hx := C.1.1
  have hb := C.1.2.1
  have hts := C.1.2.2.2.2
  have hown := C.1.2.2.2.1
  refine lv_iload_n hx hb dJ8_newLength_cabcc_0 rfl (lv_at hl 0 rfl) ?_
  refine lv_iload_n hx hb dJ8_newLength_cabcc_1 rfl (lv_at hl 1 rfl) ?_
  refine lv_iload_n hx hb dJ8_newLength_cabcc_2 rfl (lv_at hl 2 rfl) ?_
  refine cc_S (av := [.int mg, .int pg]) C (k_J9_max_7cf53 l D a mg pg) jw_maxS (okR_of hRf hRl (Nat.le_of_ble_eq_true rfl) (Nat.le_of_ble_eq_true rfl)) rfl rfl hl.1 (Nat.le_of_ble_eq_true rfl) (Nat.zero_le _) (Nat.zero_le _) dJ8_newLength_cabcc_3 ?_
  refine lv_iadd hx hb dJ8_newLength_cabcc_6 ?_
  refine lv_istore_n (lv' := [(3, .int (o + f_J9_max_7cf53 mg pg)), (0, .int o), (1, .int mg), (2, .int pg)]) hx hb dJ8_newLength_cabcc_7 rfl hl (by decide) rfl (fun ls hl => ?_)
  refine lv_iconst (v := 0) hx hb dJ8_newLength_cabcc_8 (by decide) ?_
  refine lv_iload_n hx hb dJ8_newLength_cabcc_9 rfl (lv_at hl 0 rfl) ?_
  refine lv_icmp_ge (tgt := 21) hx hb dJ8_newLength_cabcc_10 (by decide) (fun c => absurd c h1) (fun _ => ?_)
  refine lv_iload_n hx hb dJ8_newLength_cabcc_13 rfl (lv_at hl 0 rfl) ?_
  refine lv_ldc (v := 2147483639) hx hb hown (hts _ q_199) dJ8_newLength_cabcc_14 ?_
  refine lv_icmp_gt (tgt := 21) hx hb dJ8_newLength_cabcc_16 (by decide) (fun c => absurd c h2) (fun _ => ?_)
  refine lv_iload_n hx hb dJ8_newLength_cabcc_19 rfl (lv_at hl 0 rfl) ?_
  exact ret _ _ _ dJ8_newLength_cabcc_20 rfl
/-- a full row, and what lies in it -/
def CB (D : va_G) (a : Nat → ClassId) (e0 : Nat) (A : Nat → Prop) (nm : String) (q ar cap : Nat) (es : Nat → Nat) (U : State) : Prop := EV D a e0 A U U.heap ∧ A ar ∧ ∃ g, va_at D vwCl (arE a ar cap g) U.heap ∧ (∀ i, i < cap → g i = some (es i)) ∧ ∀ i, i < cap → EL nm q U U.heap (es i)
theorem cb_good {nm : String} {q ar cap : Nat} {es : Nat → Nat} : GB D a (CB D a e0 A nm q ar cap es) :=
  ⟨fun U h => h.1.1, fun U g mk z h => ⟨h.1.calling g mk z, h.2.1, h.2.2.elim fun g' hg => ⟨g', hg.1, hg.2.1, fun i hi => (hg.2.2 i hi).moved (Vm.Alike.refl U.vm)⟩⟩⟩
/-- a new row, the old one's things in front -/
def CP (D : va_G) (a : Nat → ClassId) (cap N : Nat) (es : Nat → Nat) (H : Heap) (v : Option Value) (H1 : Heap) : Prop := ∃ (r : Nat) (g : Nat → Option Nat), v = some (.ref r) ∧ va_at D vwCl (arE a r N g) H1 ∧ (∀ i, i < cap → g i = some (es i)) ∧ H.size ≤ r ∧ H.size ≤ H1.size ∧ ∀ z, z < H.size → H1[z]? = H[z]?
theorem ar_cls {cA : ClassId} {s : State} (hK : va_K D vwCl (tyL a) s) (h : va_RA s cA (.object "java/lang/Object")) : cA = a 4 := by
  obtain ⟨-, h4⟩ := hK.2 4 _ rfl
  have e1 := va_nmO h rfl
  have e2 := va_nmO h4 rfl
  exact Option.some.inj (e1.symm.trans e2)
set_option maxRecDepth 100000 in
set_option maxHeartbeats 1000000 in
theorem j_cop3 (l : Launch) (D : va_G) (a : Nat → ClassId) (e0 : Nat) (A : Nat → Prop) (nm : String) (hnb : Cond.castable nm "java/lang/Object" ∈ NBW) (q ar cap N mi : Nat) (es : Nat → Nat) (hc : cap ≤ N) (hN : N ≤ 200) : KG l yJ7_copyOf_6403c cJ7_copyOf_6403c 4 (some (.array (.object "java/lang/Object"))) 1 25 1 N [.ref ar, .int (nI N), .ref mi] A (fun U => CB D a e0 A nm q ar cap es U ∧ va_Mi "[Ljava/lang/Object;" mi U) (CP D a cap N es) := by
  refine goGa (D := D) (a := a) (by decide +kernel) ⟨fun U h => h.1.1.1, fun U g mk z h => ⟨cb_good.2 U g mk z h.1, h.2.moved (Vm.Alike.refl U.vm)⟩⟩ (Or.inr ⟨_, rfl⟩) (Nat.le_of_ble_eq_true rfl) ?_
  intro p e s m args below meth c ls R Q hRf hRl hRc hRs C hB hl ret
  obtain ⟨⟨hE, hAr, g, hat, hg, hel⟩, hMi⟩ := hB
  have hl : lv_has ls 4 [(0, .ref ar), (1, .int (nI N)), (2, .ref mi)] := hl
  have hx := C.1.1
  have hb := C.1.2.1
  have hts := C.1.2.2.2.2
  have hown := C.1.2.2.2.1
  have hNc : (nI N).toNatClampNeg = N := nI_clamp (by omega)
  have hcc : (nI cap).toNatClampNeg = cap := nI_clamp (by omega)
  refine lv_aload_n hx hb dJ7_copyOf_6403c_0 rfl (lv_at hl 2 rfl) ?_
  refine va_ldcM hx hb hown (hts _ q_226) hMi dJ7_copyOf_6403c_1 ?_
  refine lx_acmp_ne (tgt := 13) hx hb dJ7_copyOf_6403c_3 (by decide) (fun c => absurd rfl c) (fun _ => ?_)
  refine lv_iload_n hx hb dJ7_copyOf_6403c_6 rfl (lv_at hl 1 rfl) ?_
  refine va_newq (A := fun z => z = ar ∨ s.heap.size ≤ z) (H0 := s.heap) (ws := [arE a ar cap g]) (N' := N) hx hb hown (hts _ q_228) hE.2.2.2.2.2.2.2.2.2.2.2 C.2 (va_at_single hat) (va_D1 (Or.inl rfl)) va_S.rf (fun z h => Or.inr h) (nI_pos (by omega)) hNc (by omega) (by rw [hRc]; exact Nat.le_refl _) (by rw [hRs]; omega) dJ7_copyOf_6403c_7 (fun r cA H1 hK1 hP1 hD1 hS1 => ?_)
  have hcA : cA = a 4 := ar_cls C.2 (hK1.2 5 _ rfl).2
  subst hcA
  have hr : s.heap.size ≤ r := by
    rcases hD1.2 1 _ rfl with h | h
    · exact absurd (hD1.1 0 1 _ _ rfl rfl h.symm) (by decide)
    · exact h
  refine lv_goto (tgt := 24) hx hb dJ7_copyOf_6403c_10 (by decide) ?_
  refine lv_astore_n (lv' := [(3, .ref r), (0, .ref ar), (1, .int (nI N)), (2, .ref mi)]) hx hb dJ7_copyOf_6403c_24 rfl hl (by decide) rfl (fun ls hl => ?_)
  refine lv_aload_n hx hb dJ7_copyOf_6403c_25 rfl (lv_at hl 1 rfl) ?_
  refine lv_iconst (v := 0) hx hb dJ7_copyOf_6403c_26 (by decide) ?_
  refine lv_aload_n hx hb dJ7_copyOf_6403c_27 rfl (lv_at hl 0 rfl) ?_
  refine lv_iconst (v := 0) hx hb dJ7_copyOf_6403c_28 (by decide) ?_
  refine lv_aload_n hx hb dJ7_copyOf_6403c_29 rfl (lv_at hl 1 rfl) ?_
  refine va_alen (v := nI cap) hx hb C.2 hP1 0 4 rfl rfl rfl dJ7_copyOf_6403c_30 ?_
  refine lv_iload_n hx hb dJ7_copyOf_6403c_31 rfl (lv_at hl 2 rfl) ?_
  refine cc_S (av := [.int (nI cap), .int (nI N)]) C (k_J9_min_7cf53 l D a (nI cap) (nI N)) jw_min (okR_of hRf hRl (Nat.le_of_ble_eq_true rfl) (Nat.le_of_ble_eq_true rfl)) rfl rfl hl.1 (Nat.le_of_ble_eq_true rfl) (by rw [hRc]; exact Nat.le_refl _) (by rw [hRs]; omega) dJ7_copyOf_6403c_32 ?_
  rw [jmin_le hc (by omega)]
  refine va_copyq (C := nm) (E1 := "java/lang/Object") (g := fun _ => none) hx hb (C.1.2.2.1.trans hl.1.symm) hown (hts _ q_232) (hts _ q_234) (hts _ q_233) (hts _ q_36) hK1 hP1 hD1 hS1 0 1 4 5 rfl rfl rfl rfl (by decide) (by decide) (nI_pos (by omega)) (by rw [hcc]; show 0 + cap ≤ cap; omega) (by rw [hcc]; show 0 + cap ≤ N; omega) (fun i hi z hz => ?_) (fun comp c0 h1 h2 => ?_) (by rw [hRf]; exact Nat.le_refl _) (by rw [hRl]; decide) dJ7_copyOf_6403c_35 (fun H2 locs2 hP2 hD2 hS2 => ?_)
  · rw [hcc] at hi
    have hz' : g (0 + i) = some z := hz
    rw [Nat.zero_add, hg i hi] at hz'
    cases hz'
    have h3 := hel i hi
    obtain ⟨-, cellV, f1, f2, f3⟩ := h3
    have hlt := (Array.getElem?_eq_some_iff.mp f1).1
    refine ⟨cellV, ?_, f2, f3⟩
    by_cases hza : es i = ar
    · have e1 : H1[ar]? = some (vp_cell (a 4) (cap, .inr (.inr (.inr (.inr g))))) := hP1 0 _ rfl
      have e2 : s.heap[ar]? = some (vp_cell (a 4) (cap, .inr (.inr (.inr (.inr g))))) := hat
      rw [hza, e1, ← e2, ← hza]
      exact f1
    · rw [hS1.2.1 _ hlt (fun q => by rcases q with q | q <;> omega)]
      exact f1
  · obtain ⟨c1, t1, f1, f2, f3⟩ := Cond.castable_spec (va_Nw.use (A := args) rfl (hE.2.1 _ hnb))
    cases h1.symm.trans f2
    cases h2.symm.trans f1
    exact f3
  refine lv_aload_n hx hb dJ7_copyOf_6403c_38 rfl (lv_at hl 0 rfl) ?_
  have hAA : ∀ z, (z = ar ∨ s.heap.size ≤ z) → A z := fun z h => h.elim (fun h => by rw [h]; exact hAr) (fun h => hE.2.2.2.2.2.1 z h)
  refine W.widen (k := 1) (n := N) (Nat.le_refl _) (by omega) (ret _ _ _ _ _ (va_S_up hS2 hAA) dJ7_copyOf_6403c_39 ⟨r, _, rfl, hP2 1 _ rfl, fun i hi => ?_, hr, hS2.1, fun z hz => ?_⟩)
  · show va_cpy g (fun _ => none) (0 : Int32).toNatClampNeg (0 : Int32).toNatClampNeg (nI cap).toNatClampNeg i = _
    rw [hcc, show (0 : Int32).toNatClampNeg = 0 from by decide]
    unfold va_cpy
    rw [if_pos ⟨Nat.zero_le _, by omega⟩]
    simpa using hg i hi
  · by_cases hza : z = ar
    · have e1 : H2[ar]? = some (vp_cell (a 4) (cap, .inr (.inr (.inr (.inr g))))) := hP2 0 _ rfl
      have e2 : s.heap[ar]? = some (vp_cell (a 4) (cap, .inr (.inr (.inr (.inr g))))) := hat
      rw [hza, e1, e2]
    · exact hS2.2.1 _ hz (fun q => by rcases q with q | q <;> omega)
theorem cb_goodM {nm : String} {q ar cap mi : Nat} {es : Nat → Nat} : GB D a (fun U => CB D a e0 A nm q ar cap es U ∧ va_Mi "[Ljava/lang/Object;" mi U) := ⟨fun U h => h.1.1.1, fun U g mk z h => ⟨cb_good.2 U g mk z h.1, h.2.moved (Vm.Alike.refl U.vm)⟩⟩
set_option maxRecDepth 100000 in
theorem j_cop2 (l : Launch) (D : va_G) (a : Nat → ClassId) (e0 : Nat) (A : Nat → Prop) (nm : String) (hnb : Cond.castable nm "java/lang/Object" ∈ NBW) (q ar cap N : Nat) (es : Nat → Nat) (hc : cap ≤ N) (hN : N ≤ 200) : KG l yJ7_copyOf_1904c cJ7_copyOf_1904c 2 (some (.array (.object "java/lang/Object"))) 2 48 1 N [.ref ar, .int (nI N)] A (CB D a e0 A nm q ar cap es) (CP D a cap N es) := by
  refine goGa (D := D) (a := a) (by decide +kernel) cb_good (Or.inr ⟨_, rfl⟩) (Nat.le_of_ble_eq_true rfl) ?_
  intro p e s m args below meth c ls R Q hRf hRl hRc hRs C hB hl ret
  obtain ⟨hE, hAr, g, hat, hg, hel⟩ := hB
  have hl : lv_has ls 2 [(0, .ref ar), (1, .int (nI N))] := hl
  have hx := C.1.1
  have hb := C.1.2.1
  have hts := C.1.2.2.2.2
  have hown := C.1.2.2.2.1
  obtain ⟨mi, hMi⟩ := hE.2.2.2.2.2.2.2.2.2.1
  refine lv_aload_n hx hb dJ7_copyOf_1904c_0 rfl (lv_at hl 0 rfl) ?_
  refine lv_iload_n hx hb dJ7_copyOf_1904c_1 rfl (lv_at hl 1 rfl) ?_
  refine lv_aload_n hx hb dJ7_copyOf_1904c_2 rfl (lv_at hl 0 rfl) ?_
  refine va_getC (C := "[Ljava/lang/Object;") hx hb (C.1.2.2.1.trans hl.1.symm) hown (hts _ q_206) (va_Dc.use hE.2.2.2.2.2.2.2.2.2.2.1) (hts _ q_926) (hts _ q_207) (hts _ q_222) hMi ⟨_, hat, rfl, va_nmO (C.2.2 4 _ rfl).2 rfl⟩ (by rw [hRf]; decide) (by rw [hRl]; exact Nat.le_of_ble_eq_true rfl) dJ7_copyOf_1904c_3 ?_
  refine cg_S (av := [.ref ar, .int (nI N), .ref mi]) C va_S.rf (j_cop3 l D a e0 A nm hnb q ar cap N mi es hc hN) cb_goodM jw_cop3 (okR_of hRf hRl (Nat.le_of_ble_eq_true rfl) (Nat.le_of_ble_eq_true rfl)) (fun U hU hW => ⟨⟨EV.at hE va_S.rf hW hU, hAr, g, by rw [hU]; exact hat, hg, fun i hi => by rw [hU]; exact (hel i hi).moved hW.alike⟩, hMi.moved hW.alike⟩) rfl rfl hl.1 (Nat.le_of_ble_eq_true rfl) (by rw [hRc]; exact Nat.le_refl _) (by rw [hRs]; omega) dJ7_copyOf_1904c_6 (fun H1 locs1 v hS hP => ?_)
  have hP' := hP
  obtain ⟨r, g', rfl, -⟩ := hP
  exact W.widen (k := 1) (n := N) (Nat.le_refl _) (by omega) (ret _ _ _ _ _ hS dJ7_copyOf_1904c_9 hP')
def GP (D : va_G) (a : Nat → ClassId) (q : Nat) (mc : Int32) (n : Nat) (es : Nat → Nat) (H : Heap) (v : Option Value) (H1 : Heap) : Prop := ∃ (r cap : Nat) (g : Nat → Option Nat), v = some (.ref r) ∧ va_at D vwCl (alE q mc r (nI n)) H1 ∧ va_at D vwCl (arE a r cap g) H1 ∧ n < cap ∧ cap ≤ 200 ∧ (∀ i, i < n → g i = some (es i)) ∧ H.size ≤ r ∧ H.size ≤ H1.size ∧ ∀ z, z < H.size → z ≠ q → H1[z]? = H[z]?
def EB (D : va_G) (a : Nat → ClassId) (e0 : Nat) (A : Nat → Prop) (q : Nat) (mc : Int32) (U : State) : Prop := EV D a e0 A U U.heap ∧ A q ∧ va_at D vwCl (alE q mc e0 (nI 0)) U.heap
theorem eb_good {q : Nat} {mc : Int32} : GB D a (EB D a e0 A q mc) := ⟨fun U h => h.1.1, fun U g mk z h => ⟨h.1.calling g mk z, h.2⟩⟩
def FB (D : va_G) (a : Nat → ClassId) (e0 : Nat) (A : Nat → Prop) (nm : String) (q : Nat) (mc : Int32) (ar cap : Nat) (es : Nat → Nat) (U : State) : Prop := CB D a e0 A nm q ar cap es U ∧ A q ∧ va_at D vwCl (alE q mc ar (nI cap)) U.heap
theorem fb_good {nm : String} {q ar cap : Nat} {mc : Int32} {es : Nat → Nat} : GB D a (FB D a e0 A nm q mc ar cap es) := ⟨fun U h => h.1.1.1, fun U g mk z h => ⟨cb_good.2 U g mk z h.1, h.2⟩⟩
theorem jw_alp {p : Program} {l : Launch} {e : Env} {R : Room} {s : State} {m : MethodId} {args : Array Value} {below : List Frame} {meth : Method} {c : Code} {H : Heap} {locs : List Loc} {cells slots : Nat} {Q : State → Prop} {cc : ByteArray} {nL pc : Nat} {ls : Array Slot} {rest : List Value} {q r ar : Nat} {mc n : Int32} (C : Cx D a p s m args c cc nL RJx4a65c) (hat : va_at D vwCl (alE q mc ar n) H) (hdg : decode cc pc = .ok (.putfield 9, 3))
    (kk : ∀ (H1 : Heap) (locs1 : List Loc), va_at D vwCl (alE q mc r n) H1 → H1.size = H.size → (∀ z, z ≠ q → H1[z]? = H[z]?) → (∀ {A : Nat → Prop} {H0 : Heap}, A q → va_S A H0 H locs → va_S A H0 H1 locs1) → W p l e R s m args below meth c H1 locs1 cells slots Q (F0 m (pc + 3) ls rest)) : W p l e R s m args below meth c H locs cells slots Q (F0 m pc ls (.ref r :: .ref q :: rest)) :=
  wx_put (D := D) (cl := vwCl) (tys := tyL a) (ci := 0) (ty := .array (.object "java/lang/Object")) (C := RJx4a65c) (T := TJx4a65c) (N := 3) C.1.1 C.1.2.1 C.1.2.2.2.2 tb_AL tyJx4a65c tyJx4a65c_ok nmJx4a65c C.1.2.2.2.1 C.2 hat rfl 1 (by decide) (C.1.2.2.2.2 _ q_72) (fun _ h9 => h9) rfl (by decide +kernel) rfl rfl (Nat.le_of_ble_eq_true rfl) hdg kk
set_option maxRecDepth 100000 in
set_option maxHeartbeats 1000000 in
theorem j_growE (l : Launch) (D : va_G) (a : Nat → ClassId) (e0 : Nat) (A : Nat → Prop) (q : Nat) (mc : Int32) (es : Nat → Nat) : KG l yJx4a65c_grow_92f84 cJx4a65c_grow_92f84 4 (some (.array (.object "java/lang/Object"))) 3 69 1 150 [.ref q, .int (nI 1)] A (EB D a e0 A q mc) (GP D a q mc 0 es) := by
  refine goGa (D := D) (a := a) (by decide +kernel) eb_good (Or.inr ⟨_, rfl⟩) (Nat.le_of_ble_eq_true rfl) ?_
  intro p e s m args below meth c ls R Q hRf hRl hRc hRs C hB hl ret
  obtain ⟨hE, hAq, hat⟩ := hB
  have hl : lv_has ls 4 [(0, .ref q), (1, .int (nI 1))] := hl
  have hx := C.1.1
  have hb := C.1.2.1
  have hts := C.1.2.2.2.2
  have hown := C.1.2.2.2.1
  have hZ := hE.2.2.2.2.2.2.2.1
  obtain ⟨f, hT⟩ := hE.2.2.2.2.2.2.2.2.1
  refine lv_aload_n hx hb dJx4a65c_grow_92f84_0 rfl (lv_at hl 0 rfl) ?_
  refine va_get (D := D) (cl := vwCl) (tys := tyL a) (ws := [alE q mc e0 (nI 0)]) (ci := 0) (C := RJx4a65c) (T := TJx4a65c) (N := 3) hx hb hts tb_AL hown C.2 (va_at_single hat) 0 rfl rfl 1 (by decide) (hts _ q_72) (fun _ h9 => h9) rfl dJx4a65c_grow_92f84_1 ?_
  refine va_tlen (v := 0) hx hb hT va_S.rf (by decide) dJx4a65c_grow_92f84_4 ?_
  refine lv_istore_n (lv' := [(2, .int 0), (0, .ref q), (1, .int (nI 1))]) hx hb dJx4a65c_grow_92f84_5 rfl hl (by decide) rfl (fun ls hl => ?_)
  refine lv_iload_n hx hb dJx4a65c_grow_92f84_6 rfl (lv_at hl 0 rfl) ?_
  refine lv_if_gt (tgt := 20) hx hb dJx4a65c_grow_92f84_7 (by decide) (fun c => absurd c (by decide)) (fun _ => ?_)
  refine lv_aload_n hx hb dJx4a65c_grow_92f84_10 rfl (lv_at hl 1 rfl) ?_
  refine va_get (D := D) (cl := vwCl) (tys := tyL a) (ws := [alE q mc e0 (nI 0)]) (ci := 0) (C := RJx4a65c) (T := TJx4a65c) (N := 3) hx hb hts tb_AL hown C.2 (va_at_single hat) 0 rfl rfl 1 (by decide) (hts _ q_72) (fun _ h9 => h9) rfl dJx4a65c_grow_92f84_11 ?_
  refine va_gets hx hb hZ va_S.rf hown (hts _ q_70) (fun _ h9 => h9) dJx4a65c_grow_92f84_14 ?_
  refine lx_acmp_eq (tgt := 45) hx hb dJx4a65c_grow_92f84_17 (by decide) (fun _ => ?_) (fun c => absurd rfl c)
  refine lv_aload_n hx hb dJx4a65c_grow_92f84_45 rfl (lv_at hl 1 rfl) ?_
  refine lv_bipush (v := 10) hx hb dJx4a65c_grow_92f84_46 (by decide) ?_
  refine lv_iload_n hx hb dJx4a65c_grow_92f84_48 rfl (lv_at hl 2 rfl) ?_
  refine cc_S (av := [.int 10, .int (nI 1)]) C (k_J9_max_7cf53 l D a 10 (nI 1)) jw_maxA (okR_of hRf hRl (Nat.le_of_ble_eq_true rfl) (Nat.le_of_ble_eq_true rfl)) rfl rfl hl.1 (Nat.le_of_ble_eq_true rfl) (by rw [hRc]; decide) (by rw [hRs]; decide) dJx4a65c_grow_92f84_49 ?_
  rw [show f_J9_max_7cf53 10 (nI 1) = nI 10 by decide +kernel]
  refine va_newq (A := fun z => z = q ∨ s.heap.size ≤ z) (H0 := s.heap) (ws := [alE q mc e0 (nI 0)]) (N' := 10) hx hb hown (hts _ q_236) hE.2.2.2.2.2.2.2.2.2.2.2 C.2 (va_at_single hat) (va_D1 (Or.inl rfl)) va_S.rf (fun z h => Or.inr h) (nI_pos (by omega)) (nI_clamp (by omega)) (by omega) (by rw [hRc]; exact Nat.le_refl _) (by rw [hRs]; decide) dJx4a65c_grow_92f84_52 (fun r cA H1 hK1 hP1 hD1 hS1 => ?_)
  have hcA : cA = a 4 := ar_cls C.2 (hK1.2 5 _ rfl).2
  subst hcA
  have hrq : r ≠ q := fun h => absurd (hD1.1 0 1 _ _ rfl rfl h.symm) (by decide)
  have hr : s.heap.size ≤ r := by
    rcases hD1.2 1 _ rfl with h | h
    · exact absurd h hrq
    · exact h
  refine lv_dup_x1 hx hb dJx4a65c_grow_92f84_55 rfl rfl ?_
  refine jw_alp C (hP1 0 _ rfl) dJx4a65c_grow_92f84_56 (fun H2 locs2 e1 e2 e3 e4 => ?_)
  have hS2 := e4 (A := fun z => z = q ∨ s.heap.size ≤ z) (Or.inl rfl) hS1
  have hAA : ∀ z, (z = q ∨ s.heap.size ≤ z) → A z := fun z h => h.elim (fun h => by rw [h]; exact hAq) (fun h => hE.2.2.2.2.2.1 z h)
  refine W.widen (k := 1) (n := 150) (Nat.le_refl _) (by decide) (ret _ _ _ _ _ (va_S_up hS2 hAA) dJx4a65c_grow_92f84_59 ⟨r, 10, _, rfl, e1, (show va_at D vwCl (arE a r 10 _) H1 from hP1 1 _ rfl).kept (e3 r hrq), by decide, by decide, fun i hi => absurd hi (Nat.not_lt_zero _), hr, hS2.1, fun z hz hzq => hS2.2.1 z hz (fun h => by rcases h with h | h <;> omega)⟩)
theorem jnew : ∀ cap, cap < 101 → 1 ≤ cap → nI cap + f_J9_max_7cf53 (nI (cap + 1) - nI cap) (nI cap >>> (1 &&& 31)) = nI (cap + max 1 (cap / 2)) := by decide +kernel
set_option maxRecDepth 100000 in
set_option maxHeartbeats 1000000 in
theorem j_growC (l : Launch) (D : va_G) (a : Nat → ClassId) (e0 : Nat) (A : Nat → Prop) (nm : String) (hnb : Cond.castable nm "java/lang/Object" ∈ NBW) (q : Nat) (mc : Int32) (ar cap : Nat) (es : Nat → Nat) (h1 : 1 ≤ cap) (h2 : cap ≤ 100) : KG l yJx4a65c_grow_92f84 cJx4a65c_grow_92f84 4 (some (.array (.object "java/lang/Object"))) 3 69 1 150 [.ref q, .int (nI (cap + 1))] A (FB D a e0 A nm q mc ar cap es) (GP D a q mc cap es) := by
  refine goGa (D := D) (a := a) (by decide +kernel) fb_good (Or.inr ⟨_, rfl⟩) (Nat.le_of_ble_eq_true rfl) ?_
  intro p e s m args below meth c ls R Q hRf hRl hRc hRs C hB hl ret
  obtain ⟨⟨hE, hAr, g, har, hg, hel⟩, hAq, hat⟩ := hB
  have hl : lv_has ls 4 [(0, .ref q), (1, .int (nI (cap + 1)))] := hl
  have hx := C.1.1
  have hb := C.1.2.1
  have hts := C.1.2.2.2.2
  have hown := C.1.2.2.2.1
  refine lv_aload_n hx hb dJx4a65c_grow_92f84_0 rfl (lv_at hl 0 rfl) ?_
  refine va_get (D := D) (cl := vwCl) (tys := tyL a) (ws := [alE q mc ar (nI cap)]) (ci := 0) (C := RJx4a65c) (T := TJx4a65c) (N := 3) hx hb hts tb_AL hown C.2 (va_at_single hat) 0 rfl rfl 1 (by decide) (hts _ q_72) (fun _ h9 => h9) rfl dJx4a65c_grow_92f84_1 ?_
  refine va_alen (v := nI cap) hx hb C.2 (va_at_single har) 0 4 rfl rfl rfl dJx4a65c_grow_92f84_4 ?_
  refine lv_istore_n (lv' := [(2, .int (nI cap)), (0, .ref q), (1, .int (nI (cap + 1)))]) hx hb dJx4a65c_grow_92f84_5 rfl hl (by decide) rfl (fun ls hl => ?_)
  refine lv_iload_n hx hb dJx4a65c_grow_92f84_6 rfl (lv_at hl 0 rfl) ?_
  refine lv_if_gt (tgt := 20) hx hb dJx4a65c_grow_92f84_7 (by decide) (fun _ => ?_) (fun c => absurd (show (0 : Int32) < nI cap from by rw [← nI_0]; exact nI_lt (by omega) (by omega)) c)
  refine lv_iload_n hx hb dJx4a65c_grow_92f84_20 rfl (lv_at hl 0 rfl) ?_
  refine lv_iload_n hx hb dJx4a65c_grow_92f84_21 rfl (lv_at hl 2 rfl) ?_
  refine lv_iload_n hx hb dJx4a65c_grow_92f84_22 rfl (lv_at hl 0 rfl) ?_
  refine lv_isub hx hb dJx4a65c_grow_92f84_23 ?_
  refine lv_iload_n hx hb dJx4a65c_grow_92f84_24 rfl (lv_at hl 0 rfl) ?_
  refine lv_iconst (v := 1) hx hb dJx4a65c_grow_92f84_25 (by decide) ?_
  refine lv_ishr hx hb dJx4a65c_grow_92f84_26 ?_
  have hN : cap + max 1 (cap / 2) ≤ 200 := by omega
  have hj := jnew cap (by omega) h1
  refine cc_S (av := [.int (nI cap), .int (nI (cap + 1) - nI cap), .int (nI cap >>> (1 &&& 31))]) C (j_newL l D a _ _ _ (by rw [hj]; exact nI_nle (by omega) (by omega)) (by rw [hj]; exact nI_nlt (a := 2147483639) (by omega) (by omega))) jw_newL (okR_of hRf hRl (Nat.le_of_ble_eq_true rfl) (Nat.le_of_ble_eq_true rfl)) rfl rfl hl.1 (Nat.le_of_ble_eq_true rfl) (by rw [hRc]; decide) (by rw [hRs]; decide) dJx4a65c_grow_92f84_27 ?_
  rw [hj]
  refine lv_istore_n (lv' := [(3, .int (nI (cap + max 1 (cap / 2)))), (2, .int (nI cap)), (0, .ref q), (1, .int (nI (cap + 1)))]) hx hb dJx4a65c_grow_92f84_30 rfl hl (by decide) rfl (fun ls hl => ?_)
  refine lv_aload_n hx hb dJx4a65c_grow_92f84_31 rfl (lv_at hl 2 rfl) ?_
  refine lv_aload_n hx hb dJx4a65c_grow_92f84_32 rfl (lv_at hl 2 rfl) ?_
  refine va_get (D := D) (cl := vwCl) (tys := tyL a) (ws := [alE q mc ar (nI cap)]) (ci := 0) (C := RJx4a65c) (T := TJx4a65c) (N := 3) hx hb hts tb_AL hown C.2 (va_at_single hat) 0 rfl rfl 1 (by decide) (hts _ q_72) (fun _ h9 => h9) rfl dJx4a65c_grow_92f84_33 ?_
  refine lv_iload_n hx hb dJx4a65c_grow_92f84_36 rfl (lv_at hl 0 rfl) ?_
  refine cg_S (av := [.ref ar, .int (nI (cap + max 1 (cap / 2)))]) C va_S.rf (j_cop2 l D a e0 A nm hnb q ar cap (cap + max 1 (cap / 2)) es (by omega) hN) cb_good jw_cop2 (okR_of hRf hRl (Nat.le_of_ble_eq_true rfl) (Nat.le_of_ble_eq_true rfl)) (fun U hU hW => ⟨EV.at hE va_S.rf hW hU, hAr, g, by rw [hU]; exact har, hg, fun i hi => by rw [hU]; exact (hel i hi).moved hW.alike⟩) rfl rfl hl.1 (Nat.le_of_ble_eq_true rfl) (by rw [hRc]; exact Nat.le_refl _) (by rw [hRs]; omega) dJx4a65c_grow_92f84_37 (fun H1 locs1 v hS1 hP => ?_)
  obtain ⟨r, g', rfl, f1, f2, f3, f4, f5⟩ := hP
  refine lv_dup_x1 hx hb dJx4a65c_grow_92f84_40 rfl rfl ?_
  have hq1 : q < s.heap.size := hat.lt
  refine jw_alp C (hat.kept (f5 q hq1)) dJx4a65c_grow_92f84_41 (fun H2 locs2 e1 e2 e3 e4 => ?_)
  refine W.widen (k := 1) (n := 150) (Nat.le_refl _) (by omega) (ret _ _ _ _ _ (e4 hAq hS1) dJx4a65c_grow_92f84_44 ⟨r, _, _, rfl, e1, f1.kept (e3 r (by omega)), by omega, hN, f2, f3, by omega, fun z hz hzq => (e3 z hzq).trans (f5 z hz)⟩)
set_option maxRecDepth 100000 in
theorem j_grow0 (l : Launch) (D : va_G) (a : Nat → ClassId) (A : Nat → Prop) {B : State → Prop} {P : Heap → Option Value → Heap → Prop} (q : Nat) (mc : Int32) (ar n : Nat) (hG : GB D a B) (hBq : ∀ U, B U → va_at D vwCl (alE q mc ar (nI n)) U.heap) (hBm : ∀ s U, B s → s.WarmedH U.vm → U.heap = s.heap → B U) (hP : ∀ H v H1, P H v H1 → ∃ r, v = some (.ref r)) (hK : KG l yJx4a65c_grow_92f84 cJx4a65c_grow_92f84 4 (some (.array (.object "java/lang/Object"))) 3 69 1 150 [.ref q, .int (nI (n + 1))] A B P) : KG l yJx4a65c_grow_d5877 cJx4a65c_grow_d5877 1 (some (.array (.object "java/lang/Object"))) 4 92 1 150 [.ref q] A B P := by
  refine goGa (D := D) (a := a) (by decide +kernel) hG (Or.inr ⟨_, rfl⟩) (Nat.le_of_ble_eq_true rfl) ?_
  intro p e s m args below meth c ls R Q hRf hRl hRc hRs C hB hl ret
  have hat := hBq s hB
  have hl : lv_has ls 1 [(0, .ref q)] := hl
  have hx := C.1.1
  have hb := C.1.2.1
  have hts := C.1.2.2.2.2
  have hown := C.1.2.2.2.1
  refine lv_aload_n hx hb dJx4a65c_grow_d5877_0 rfl (lv_at hl 0 rfl) ?_
  refine lv_aload_n hx hb dJx4a65c_grow_d5877_1 rfl (lv_at hl 0 rfl) ?_
  refine va_get (D := D) (cl := vwCl) (tys := tyL a) (ws := [alE q mc ar (nI n)]) (ci := 0) (C := RJx4a65c) (T := TJx4a65c) (N := 3) hx hb hts tb_AL hown C.2 (va_at_single hat) 0 rfl rfl 2 (by decide) (hts _ q_73) (fun _ h9 => h9) rfl dJx4a65c_grow_d5877_2 ?_
  refine lv_iconst (v := 1) hx hb dJx4a65c_grow_d5877_5 (by decide) ?_
  refine lv_iadd hx hb dJx4a65c_grow_d5877_6 ?_
  rw [nI_1]
  refine cg_V (av := [.int (nI (n + 1))]) (b := q) C va_S.rf hK hG jw_grow1 (okR_of hRf hRl (Nat.le_of_ble_eq_true rfl) (Nat.le_of_ble_eq_true rfl)) (jl_recv C hat) (fun U hU hW => hBm s U hB hW hU) rfl rfl hl.1 (Nat.le_of_ble_eq_true rfl) (by rw [hRc]; exact Nat.le_refl _) (by rw [hRs]; exact Nat.le_refl _) dJx4a65c_grow_d5877_7 (fun H1 locs1 v hS1 hP1 => ?_)
  obtain ⟨r, rfl⟩ := hP _ _ _ hP1
  exact W.widen (k := 1) (n := 150) (Nat.le_refl _) (Nat.le_refl _) (ret _ _ _ _ _ hS1 dJx4a65c_grow_d5877_10 hP1)
/-- a list, and one thing more -/
def AB (D : va_G) (a : Nat → ClassId) (e0 : Nat) (A : Nat → Prop) (nm : String) (q : Nat) (mc : Int32) (ar n : Nat) (es : Nat → Nat) (v : Nat) (U : State) : Prop := EV D a e0 A U U.heap ∧ A q ∧ va_at D vwCl (alE q mc ar (nI n)) U.heap ∧ EL nm q U U.heap v ∧ ((ar = e0 ∧ n = 0) ∨ (A ar ∧ ∃ cap g, va_at D vwCl (arE a ar cap g) U.heap ∧ 1 ≤ cap ∧ n ≤ cap ∧ cap ≤ 200 ∧ (∀ i, i < n → g i = some (es i)) ∧ ∀ i, i < n → EL nm q U U.heap (es i)))
theorem AB.moved {nm : String} {q ar n v : Nat} {mc : Int32} {es : Nat → Nat} {s U : State} (h : AB D a e0 A nm q mc ar n es v s) (hW : s.WarmedH U.vm) (hU : U.heap = s.heap) : AB D a e0 A nm q mc ar n es v U := by
  obtain ⟨h1, h2, h3, h4, h5⟩ := h
  refine ⟨EV.at h1 va_S.rf hW hU, h2, by rw [hU]; exact h3, by rw [hU]; exact h4.moved hW.alike, ?_⟩
  rcases h5 with h | ⟨ha, cap, g, g1, g2, g3, g4, g5, g6⟩
  · exact Or.inl h
  · exact Or.inr ⟨ha, cap, g, by rw [hU]; exact g1, g2, g3, g4, g5, fun i hi => by rw [hU]; exact (g6 i hi).moved hW.alike⟩
theorem ab_good {nm : String} {q ar n v : Nat} {mc : Int32} {es : Nat → Nat} : GB D a (AB D a e0 A nm q mc ar n es v) := ⟨fun U h => h.1.1, fun U g mk z h => h.moved (State.WarmedH.refl U) rfl⟩
def AP (D : va_G) (a : Nat → ClassId) (A : Nat → Prop) (q : Nat) (mc : Int32) (ar n : Nat) (es : Nat → Nat) (e : Nat) (v0 : Option Value) (H : Heap) (v : Option Value) (H1 : Heap) : Prop := v = v0 ∧ ∃ (r cap : Nat) (g : Nat → Option Nat), va_at D vwCl (alE q mc r (nI (n + 1))) H1 ∧ va_at D vwCl (arE a r cap g) H1 ∧ n + 1 ≤ cap ∧ cap ≤ 200 ∧ (∀ i, i < n → g i = some (es i)) ∧ g n = some e ∧ ((r = ar ∧ A ar) ∨ H.size ≤ r) ∧ H.size ≤ H1.size ∧ ∀ z, z < H.size → z ≠ q → z ≠ ar → H1[z]? = H[z]?
set_option maxRecDepth 100000 in
set_option maxHeartbeats 1000000 in
theorem j_add3 (l : Launch) (D : va_G) (a : Nat → ClassId) (e0 : Nat) (A : Nat → Prop) (nm : String) (hnb : Cond.castable nm "java/lang/Object" ∈ NBW) (q : Nat) (mc : Int32) (ar n : Nat) (es : Nat → Nat) (v : Nat) (hn : n ≤ 100) (hva : v ≠ ar) (hqa : q ≠ ar) : KG l yJx4a65c_add_72be8 cJx4a65c_add_72be8 4 none 5 112 1 150 [.ref q, .ref v, .ref ar, .int (nI n)] A (AB D a e0 A nm q mc ar n es v) (AP D a A q mc ar n es v none) := by
  refine goGv (D := D) (a := a) (by decide +kernel) ab_good (Nat.le_of_ble_eq_true rfl) ?_
  intro p e s m args below meth c ls R Q hRf hRl hRc hRs C hB hl ret
  have hB0 := hB
  obtain ⟨hE, hAq, hat, hev, hor⟩ := hB
  have hl : lv_has ls 4 [(0, .ref q), (1, .ref v), (2, .ref ar), (3, .int (nI n))] := hl
  have hx := C.1.1
  have hb := C.1.2.1
  have hts := C.1.2.2.2.2
  have hown := C.1.2.2.2.1
  have tail : ∀ (H : Heap) (locs : List Loc) (r cap : Nat) (g : Nat → Option Nat) (cells slots : Nat) (ls : Array Slot), va_S A s.heap H locs → va_at D vwCl (alE q mc r (nI n)) H → va_at D vwCl (arE a r cap g) H → n < cap → cap ≤ 200 → (∀ i, i < n → g i = some (es i)) → ((r = ar ∧ A ar) ∨ s.heap.size ≤ r) → (∀ z, z < s.heap.size → z ≠ q → z ≠ ar → H[z]? = s.heap[z]?) → cells ≤ 1 → slots ≤ 150 → lv_has ls 4 [(0, .ref q), (1, .ref v), (2, .ref r), (3, .int (nI n))] → W p l e R s m args below meth c H locs cells slots Q (F0 m 11 ls []) := by
    intro H locs r cap g cells slots ls hS hal har hlt hle hg hr hk hc hs hl
    have hnc : (nI n).toNatClampNeg = n := nI_clamp (by omega)
    have hqs : q < s.heap.size := hat.lt
    have hqr : q ≠ r := by
      rcases hr with ⟨h, -⟩ | h
      · rw [h]; exact hqa
      · omega
    have hAr : A r := by
      rcases hr with ⟨h, h'⟩ | h
      · rw [h]; exact h'
      · exact hE.2.2.2.2.2.1 r h
    refine lv_aload_n hx hb dJx4a65c_add_72be8_11 rfl (lv_at hl 2 rfl) ?_
    refine lv_iload_n hx hb dJx4a65c_add_72be8_12 rfl (lv_at hl 3 rfl) ?_
    refine lv_aload_n hx hb dJx4a65c_add_72be8_13 rfl (lv_at hl 1 rfl) ?_
    refine wx_aast C hE hnb har (hev.kept (hk v hev.lt hev.1 hva)) (nI_in hlt (by omega)) dJx4a65c_add_72be8_14 (fun H1 locs1 har1 z1 o1 s1 => ?_)
    rw [hnc] at har1
    refine lv_aload_n hx hb dJx4a65c_add_72be8_15 rfl (lv_at hl 0 rfl) ?_
    refine lv_iload_n hx hb dJx4a65c_add_72be8_16 rfl (lv_at hl 3 rfl) ?_
    refine lv_iconst (v := 1) hx hb dJx4a65c_add_72be8_17 (by decide) ?_
    refine lv_iadd hx hb dJx4a65c_add_72be8_18 ?_
    rw [nI_1]
    refine wx_put (D := D) (cl := vwCl) (tys := tyL a) (ci := 0) (ty := .int) (C := RJx4a65c) (T := TJx4a65c) (N := 3) hx hb hts tb_AL tyJx4a65c tyJx4a65c_ok nmJx4a65c hown C.2 (hal.kept (o1 q hqr)) rfl 2 (by decide) (hts _ q_73) (fun _ h9 => h9) rfl (by decide +kernel) rfl rfl (Nat.le_of_ble_eq_true rfl) dJx4a65c_add_72be8_19 (fun H2 locs2 e1 e2 e3 e4 => ?_)
    refine W.widen (k := 1) (n := 150) hc hs (ret _ _ _ _ (e4 hAq (s1 hAr hS)) dJx4a65c_add_72be8_22 ⟨rfl, r, cap, _, e1, har1.kept (e3 r (fun h => hqr h.symm)), hlt, hle, fun i hi => ?_, ?_, hr, (e4 hAq (s1 hAr hS)).1, fun z hz hzq hza => ?_⟩)
    · rw [va_up_ne _ _ (by omega)]
      exact hg i hi
    · exact va_up_self _ _ _
    · have hzr : z ≠ r := by
        rcases hr with ⟨h, -⟩ | h
        · rw [h]; exact hza
        · omega
      exact (e3 z hzq).trans ((o1 z hzr).trans (hk z hz hzq hza))
  refine lv_iload_n hx hb dJx4a65c_add_72be8_0 rfl (lv_at hl 3 rfl) ?_
  refine lv_aload_n hx hb dJx4a65c_add_72be8_1 rfl (lv_at hl 2 rfl) ?_
  rcases hor with ⟨ha0, hn0⟩ | ⟨hAr, cap, g, har, hc1, hc2, hc3, hg, hel⟩
  · subst hn0
    have ha1 := ha0
    subst ha1
    obtain ⟨f, hT⟩ := hE.2.2.2.2.2.2.2.2.1
    refine va_tlen (v := nI 0) hx hb hT va_S.rf rfl dJx4a65c_add_72be8_2 ?_
    refine lv_icmp_ne (tgt := 11) hx hb dJx4a65c_add_72be8_3 (by decide) (fun c => absurd rfl c) (fun _ => ?_)
    refine lv_aload_n hx hb dJx4a65c_add_72be8_6 rfl (lv_at hl 0 rfl) ?_
    refine cg_V (av := []) (b := q) C va_S.rf (j_grow0 l D a A q mc ar 0 eb_good (fun U h => h.2.2) (fun s U h hW hU => ⟨EV.at h.1 va_S.rf hW hU, h.2.1, by rw [hU]; exact h.2.2⟩) (fun H v H1 h => h.elim fun r h => h.elim fun _ h => h.elim fun _ h => ⟨r, h.1⟩) (j_growE l D a ar A q mc es)) eb_good jw_grow0 (okR_of hRf hRl (Nat.le_of_ble_eq_true rfl) (Nat.le_of_ble_eq_true rfl)) (jl_recv C hat) (fun U hU hW => ⟨EV.at hE va_S.rf hW hU, hAq, by rw [hU]; exact hat⟩) rfl rfl hl.1 (Nat.le_of_ble_eq_true rfl) (by rw [hRc]; exact Nat.le_refl _) (by rw [hRs]; exact Nat.le_refl _) dJx4a65c_add_72be8_7 (fun H1 locs1 v1 hS1 hP1 => ?_)
    obtain ⟨r, cap, g, rfl, f1, f2, f3, f4, f5, f6, f7, f8⟩ := hP1
    refine lv_astore_n (lv' := [(2, .ref r), (0, .ref q), (1, .ref v), (3, .int (nI 0))]) hx hb dJx4a65c_add_72be8_10 rfl hl (by decide) rfl (fun ls hl => ?_)
    exact tail H1 locs1 r cap g _ _ ls hS1 f1 f2 f3 f4 f5 (Or.inr f6) (fun z hz hzq _ => f8 z hz hzq) (Nat.le_refl _) (Nat.le_refl _) (lv_sub hl [1, 2, 0, 3] rfl)
  · refine va_alen (v := nI cap) hx hb C.2 (va_at_single har) 0 4 rfl rfl rfl dJx4a65c_add_72be8_2 ?_
    refine lv_icmp_ne (tgt := 11) hx hb dJx4a65c_add_72be8_3 (by decide) (fun hne => ?_) (fun heq => ?_)
    · have hlt : n < cap := by
        rcases Nat.lt_or_ge n cap with h | h
        · exact h
        · exact absurd (show nI n = nI cap by rw [show n = cap by omega]) hne
      exact tail s.heap [] ar cap g 0 0 ls va_S.rf hat har hlt hc3 hg (Or.inl ⟨rfl, hAr⟩) (fun _ _ _ _ => rfl) (by decide) (by decide) hl
    · have hnc : n = cap := (nI_eq (by omega) (by omega)).mp heq
      subst hnc
      refine lv_aload_n hx hb dJx4a65c_add_72be8_6 rfl (lv_at hl 0 rfl) ?_
      refine cg_V (av := []) (b := q) C va_S.rf (j_grow0 l D a A q mc ar n fb_good (fun U h => h.2.2) (fun s U h hW hU => ⟨⟨EV.at h.1.1 va_S.rf hW hU, h.1.2.1, h.1.2.2.elim fun g' hg' => ⟨g', by rw [hU]; exact hg'.1, hg'.2.1, fun i hi => by rw [hU]; exact (hg'.2.2 i hi).moved hW.alike⟩⟩, h.2.1, by rw [hU]; exact h.2.2⟩) (fun H v H1 h => h.elim fun r h => h.elim fun _ h => h.elim fun _ h => ⟨r, h.1⟩) (j_growC l D a e0 A nm hnb q mc ar n es hc1 hn)) fb_good jw_grow0 (okR_of hRf hRl (Nat.le_of_ble_eq_true rfl) (Nat.le_of_ble_eq_true rfl)) (jl_recv C hat) (fun U hU hW => ⟨⟨EV.at hE va_S.rf hW hU, hAr, g, by rw [hU]; exact har, hg, fun i hi => by rw [hU]; exact (hel i hi).moved hW.alike⟩, hAq, by rw [hU]; exact hat⟩) rfl rfl hl.1 (Nat.le_of_ble_eq_true rfl) (by rw [hRc]; exact Nat.le_refl _) (by rw [hRs]; exact Nat.le_refl _) dJx4a65c_add_72be8_7 (fun H1 locs1 v1 hS1 hP1 => ?_)
      obtain ⟨r, cap, g', rfl, f1, f2, f3, f4, f5, f6, f7, f8⟩ := hP1
      refine lv_astore_n (lv' := [(2, .ref r), (0, .ref q), (1, .ref v), (3, .int (nI n))]) hx hb dJx4a65c_add_72be8_10 rfl hl (by decide) rfl (fun ls hl => ?_)
      exact tail H1 locs1 r cap g' _ _ ls hS1 f1 f2 f3 f4 f5 (Or.inr f6) (fun z hz hzq _ => f8 z hz hzq) (Nat.le_refl _) (Nat.le_refl _) (lv_sub hl [1, 2, 0, 3] rfl)
set_option maxRecDepth 100000 in
set_option maxHeartbeats 1000000 in
theorem j_add1 (l : Launch) (D : va_G) (a : Nat → ClassId) (e0 : Nat) (A : Nat → Prop) (nm : String) (hnb : Cond.castable nm "java/lang/Object" ∈ NBW) (q : Nat) (mc : Int32) (ar n : Nat) (es : Nat → Nat) (v : Nat) (hn : n ≤ 100) (hva : v ≠ ar) (hqa : q ≠ ar) : KG l yJx4a65c_add_9ea2d cJx4a65c_add_9ea2d 2 (some .boolean) 6 135 1 150 [.ref q, .ref v] A (AB D a e0 A nm q mc ar n es v) (AP D a A q (mc + 1) ar n es v (some (.int 1))) := by
  refine goGz (D := D) (a := a) (by decide +kernel) ab_good (Nat.le_of_ble_eq_true rfl) ?_
  intro p e s m args below meth c ls R Q hRf hRl hRc hRs C hB hl ret
  obtain ⟨hE, hAq, hat, hev, hor⟩ := hB
  have hl : lv_has ls 2 [(0, .ref q), (1, .ref v)] := hl
  have hx := C.1.1
  have hb := C.1.2.1
  have hts := C.1.2.2.2.2
  have hown := C.1.2.2.2.1
  refine lv_aload_n hx hb dJx4a65c_add_9ea2d_0 rfl (lv_at hl 0 rfl) ?_
  refine lv_dup hx hb dJx4a65c_add_9ea2d_1 rfl ?_
  refine va_get (D := D) (cl := vwCl) (tys := tyL a) (ws := [alE q mc ar (nI n)]) (ci := 0) (C := RJx4a65c) (T := TJx4a65c) (N := 3) hx hb hts tb_AL hown C.2 (va_at_single hat) 0 rfl rfl 0 (by decide) (hts _ q_75) (fun x9 h9 => u_same (hts _ q_76) x9 h9) rfl dJx4a65c_add_9ea2d_2 ?_
  refine lv_iconst (v := 1) hx hb dJx4a65c_add_9ea2d_5 (by decide) ?_
  refine lv_iadd hx hb dJx4a65c_add_9ea2d_6 ?_
  refine wx_put (D := D) (cl := vwCl) (tys := tyL a) (ci := 0) (ty := .int) (C := RJx4a65c) (T := TJx4a65c) (N := 3) hx hb hts tb_AL tyJx4a65c tyJx4a65c_ok nmJx4a65c hown C.2 hat rfl 0 (by decide) (hts _ q_75) (fun x9 h9 => u_same (hts _ q_76) x9 h9) rfl (by decide +kernel) rfl rfl (Nat.le_of_ble_eq_true rfl) dJx4a65c_add_9ea2d_7 (fun H1 locs1 e1 e2 e3 e4 => ?_)
  have hat1 : va_at D vwCl (alE q (mc + 1) ar (nI n)) H1 := e1
  have hS1 := e4 hAq va_S.rf
  refine lv_aload_n hx hb dJx4a65c_add_9ea2d_10 rfl (lv_at hl 0 rfl) ?_
  refine lv_aload_n hx hb dJx4a65c_add_9ea2d_11 rfl (lv_at hl 1 rfl) ?_
  refine lv_aload_n hx hb dJx4a65c_add_9ea2d_12 rfl (lv_at hl 0 rfl) ?_
  refine va_get (D := D) (cl := vwCl) (tys := tyL a) (ws := [alE q (mc + 1) ar (nI n)]) (ci := 0) (C := RJx4a65c) (T := TJx4a65c) (N := 3) hx hb hts tb_AL hown C.2 (va_at_single hat1) 0 rfl rfl 1 (by decide) (hts _ q_72) (fun _ h9 => h9) rfl dJx4a65c_add_9ea2d_13 ?_
  refine lv_aload_n hx hb dJx4a65c_add_9ea2d_16 rfl (lv_at hl 0 rfl) ?_
  refine va_get (D := D) (cl := vwCl) (tys := tyL a) (ws := [alE q (mc + 1) ar (nI n)]) (ci := 0) (C := RJx4a65c) (T := TJx4a65c) (N := 3) hx hb hts tb_AL hown C.2 (va_at_single hat1) 0 rfl rfl 2 (by decide) (hts _ q_73) (fun _ h9 => h9) rfl dJx4a65c_add_9ea2d_17 ?_
  refine cg_V (av := [.ref v, .ref ar, .int (nI n)]) (b := q) C hS1 (j_add3 l D a e0 A nm hnb q (mc + 1) ar n es v hn hva hqa) ab_good jw_add3 (okR_of hRf hRl (Nat.le_of_ble_eq_true rfl) (Nat.le_of_ble_eq_true rfl)) (jl_recv C hat1) (fun U hU hW => ⟨EV.at hE hS1 hW hU, hAq, by rw [hU]; exact hat1, by rw [hU]; exact (hev.kept (e3 v hev.1)).moved hW.alike, ?_⟩) rfl rfl hl.1 (Nat.le_of_ble_eq_true rfl) (by rw [hRc]; exact Nat.le_refl _) (by rw [hRs]; exact Nat.le_refl _) dJx4a65c_add_9ea2d_20 (fun H2 locs2 v2 hS2 hP2 => ?_)
  · rcases hor with h | ⟨hAr, cap, g, har, hc1, hc2, hc3, hg, hel⟩
    · exact Or.inl h
    · exact Or.inr ⟨hAr, cap, g, by rw [hU]; exact har.kept (e3 ar (fun h => hqa h.symm)), hc1, hc2, hc3, hg, fun i hi => by rw [hU]; exact ((hel i hi).kept (e3 _ (hel i hi).1)).moved hW.alike⟩
  obtain ⟨rfl, r, cap, g, f1, f2, f3, f4, f5, f6, f7, f8, f9⟩ := hP2
  refine lv_iconst (v := 1) hx hb dJx4a65c_add_9ea2d_23 (by decide) ?_
  refine W.widen (k := 1) (n := 150) (Nat.le_refl _) (Nat.le_refl _) (ret _ _ _ _ _ hS2 dJx4a65c_add_9ea2d_24 (by unfold zb; decide) ⟨rfl, r, cap, g, f1, f2, f3, f4, f5, f6, ?_, by rw [← e2]; exact f8, fun z hz hzq hza => (f9 z (by rw [e2]; exact hz) hzq hza).trans (e3 z hzq)⟩)
  rcases f7 with h | h
  · exact Or.inl h
  · exact Or.inr (by rw [← e2]; exact h)
end JDK2

