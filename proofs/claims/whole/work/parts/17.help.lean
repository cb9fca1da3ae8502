/-! ===== the law's helpers: a call of the class's, its answer or its exception told ===== -/
section XHELP
variable {p : Program} {l : Launch} {e : Env} {R : Room} {s : State} {m : MethodId} {args : Array Value} {below : List Frame} {meth : Method} {c : Code} {H : Heap} {locs : List Loc} {cells slots : Nat} {Q : State → Prop} {D : va_G} {a : Nat → ClassId} {x e0 oo : Nat} {A : Nat → Prop} {σ : XS} {cc : ByteArray} {nL : Nat} {pc : Nat} {ls : Array Slot} {rest st : List Value} {own C : String} {idx : Nat} {y : MethodName} {bytes : ByteArray} {maxL n fr lo mc ms : Nat} {ret : Option FieldType} {av : List Value} {hh : List (Nat × Nat × Nat × Nat)} {f : Nat → Int64}
def KH (l : Launch) (y : MethodName) (bytes : ByteArray) (maxL : Nat) (hh : List (Nat × Nat × Nat × Nat)) (fr lo mc ms : Nat) (av : List Value) (A : Nat → Prop) (B : State → Prop) (P : Heap → Int32 → Heap → Prop) : Prop :=
  Met l y (.codeWith y bytes maxL (some .int) hh :: TB) { frames := fr, cells := mc, slots := ms, locals := lo } (va_Pc av B) (fun _ st oc t => (∃ v : Int32, oc = .returned (some (.int v)) ∧ P st.heap v t.heap) ∧ va_F A st t) mc ms A
theorem ofWX {ws ws' : List Cond} {rm : Room} {Pc : Array Value → State → Prop} {Qc : Array Value → State → Outcome → State → Prop} {free : Addr → Prop}
    (hy : plainName y.cls = true) (hw : ws = Cond.codeWith y cc maxL ret hh :: ws')
    (body : ∀ p e s m args below meth c s₁, BodyLoose p l y (headSpec ws rm) cc maxL ret e s m args below meth c s₁ → c.maxLocals = maxL → Pc args s →
      W p l e (headSpec ws rm).room s m args below meth c s.heap [] 0 0 (MQ below Qc args s mc ms free) (entryFrame m args maxL)) : Met l y ws rm Pc Qc mc ms free := by
  refine MetFree.of_bodyS (code := cc) (maxLocals := maxL) (ret := ret) hy ?_ ?_
  · intro args s m h hn
    obtain ⟨m9, meth, c, hn9, h1, h2, h3, h4, -, h5, h6, -⟩ := Cond.codeWith_spec (atoms_spec (ws := ws) h _ (by rw [hw]; exact List.mem_cons_self))
    cases hn.symm.trans hn9
    exact ⟨meth, c, h1, h2, h3, h4, h5, h6⟩
  · intro p e s m args below meth c s₁ B hml hP _
    have hh0 : s₁.heap = s.heap := by rw [B.state]; rfl
    obtain ⟨t, a1, o, b1, b2, b3⟩ := body p e s m args below meth c s₁ B hml hP s₁ hh0 (Stand.of_body B)
    exact ⟨t, o, a1, b1, b2, ⟨b3.1, b3.2⟩⟩
theorem goH {B : State → Prop} {P : Heap → Int32 → Heap → Prop} (hy : plainName y.cls = true) (hBK : ∀ U, B U → va_K D vwCl (tyL a) U) (hlen : (lg_sl av).length ≤ maxL)
    (body : ∀ (p : Program) (e : Env) (s : State) (m : MethodId) (args : Array Value) (below : List Frame) (meth : Method) (c : Code) (ls : Array Slot) (R : Room) (Q : State → Prop), R.frames = fr → R.locals = lo → R.cells = mc → R.slots = ms → Cx D a p s m args c bytes maxL y.cls → c.exceptionTable.toList = tableOf hh → B s → lv_has ls maxL (lv_args 0 av) →
      (∀ (pc : Nat) (ls : Array Slot) (H : Heap) (locs : List Loc) (v : Int32), va_S A s.heap H locs → decode bytes pc = .ok (.ireturn, 1) → P s.heap v H → W p l e R s m args below meth c H locs mc ms Q (F0 m pc ls [.int v])) → W p l e R s m args below meth c s.heap [] 0 0 Q (F0 m 0 ls [])) : KH l y bytes maxL hh fr lo mc ms av A B P := by
  refine ofWX (cc := bytes) (maxL := maxL) (ret := some .int) (hh := hh) hy rfl ?_
  intro p e s m args below meth c s₁ B' hml hv
  obtain ⟨rfl, hP⟩ := hv
  have C : Cx D a p s m av.toArray c bytes maxL y.cls := ⟨⟨B'.exec, B'.bytes, hml, findClass_of_methodNamed B'.named, fun w h => atoms_spec (ws := .codeWith y bytes maxL (some .int) hh :: TB) B'.pre w (List.mem_cons_of_mem _ h)⟩, hBK _ hP⟩
  have htab := vx_table (x := y) B' (atoms_spec (ws := .codeWith y bytes maxL (some .int) hh :: TB) B'.pre _ List.mem_cons_self)
  have hl := lv_entry av (n := maxL) hlen
  have hr := B'.returns
  have hk := B'.notSynchronized
  rw [lg_entry_eq]
  refine body p e s m _ below meth c _ _ _ rfl rfl rfl rfl C htab hP hl ?_
  intro pc ls H locs v hS hdg hQ
  exact W.iret C.1.1 C.1.2.1 hr (fun t ht _ => ⟨⟨_, rfl, by rw [ht]; exact hQ⟩, hS.F ht⟩) hS.2.2 hdg hk
def NCW : List (String × String) := [(exN 1, exN 3), (exN 2, exN 3), (exN 2, exN 1)]
def BH (D : va_G) (a : Nat → ClassId) (x e0 : Nat) (A : Nat → Prop) (oo : Nat) (f : Nat → Int64) (σ : XS) (U : State) : Prop := BX D a x e0 A σ U ∧ va_at D vwCl (oo, .inl (a 1, 1, .inr (.inl f))) U.heap ∧ ¬ A oo ∧ ∀ r ∈ NCW, va_Nc r.1 r.2 U
def hR {α : Type} (cd : Nat → Int32) (cv : α → (Nat → Int64) → Nat → Int64) (r : Except Nat (α × XS)) (f : Nat → Int64) (σ : XS) : Int32 × (Nat → Int64) × XS := match r with
  | .error k => (cd k, f, σ)
  | .ok v => (0, cv v.1 f, v.2)
def exm {α : Type} (σ : XS) (r : Except Nat α) : Except Nat (α × XS) := match r with
  | .error k => .error k
  | .ok v => .ok (v, σ)
def cvI (v : Int32) (f : Nat → Int64) : Nat → Int64 := va_up f 0 v.toInt64
def cvL (v : Int64) (f : Nat → Int64) : Nat → Int64 := va_up f 0 v
def cvZ (v : Int32) (f : Nat → Int64) : Nat → Int64 := va_up f 0 (if v = 0 then 0 else 1)
def cvV (_ : Unit) (f : Nat → Int64) : Nat → Int64 := f
def PH {α : Type} (D : va_G) (a : Nat → ClassId) (x e0 : Nat) (A : Nat → Prop) (oo : Nat) (cd : Nat → Int32) (cv : α → (Nat → Int64) → Nat → Int64) (F : Nat → Except Nat (α × XS)) (f : Nat → Int64) (σ : XS) (H : Heap) (v : Int32) (H1 : Heap) : Prop := v = (hR cd cv (F H.size) f σ).1 ∧ XP D a x e0 A (hR cd cv (F H.size) f σ).2.2 H1 ∧ va_at D vwCl (oo, .inl (a 1, 1, .inr (.inl (hR cd cv (F H.size) f σ).2.1))) H1
theorem cc_HU {α : Type} {vf : α → Option Value} {F : Nat → Except Nat (α × XS)} (C0 : Cx D a p s m args c cc nL own) (hE : EV D a e0 A s s.heap) (hX : XP D a x e0 A σ s.heap) (hK : KTm l D a x e0 A y bytes maxL ret fr lo mc ms (.ref x :: av) σ vf F) (cw : CWV own RX10 idx y bytes maxL ret n) (hR : okR R maxL fr lo)
    (hst : st = av.reverse ++ .ref x :: rest) (hn : av.length = n) (hsz : ls.size = nL) (hW : (rest.map fun v => v.category).sum ≤ 8) (hc : mc ≤ R.cells) (hs : ms ≤ R.slots) (hdg : decode cc pc = .ok (.invokevirtual idx, 3))
    (kx : ∀ (k : Nat) (E : String) (ce : Cell) (q : Nat) (H1 : Heap) (locs1 : List Loc), F s.heap.size = .error k → E = exN k → H1[q]? = some ce → ce.vm = .none → s.vm.findClass E = some ce.cls → s.heap.size ≤ H1.size → (∀ z, z < s.heap.size → H1[z]? = s.heap[z]?) → (∀ l ∈ locs1, A l.base) → vx_W p l e R s m args below meth c H1 locs1 mc ms Q (F0 m pc ls rest) q)
    (kk : ∀ v τ H1 locs1, F s.heap.size = .ok (v, τ) → XP D a x e0 A τ H1 → va_S A s.heap H1 locs1 → W p l e R s m args below meth c H1 locs1 mc ms Q (F0 m (pc + 3) ls ((vf v).toList ++ rest))) : W p l e R s m args below meth c s.heap [] 0 0 Q (F0 m pc ls st) := by
  have hXM : HX D a x e0 A σ s.heap s.heap [] := ⟨hX, va_S.rf⟩
  have hrun := vx_runV (mc := mc) (ms := ms) (R := R) (e := e) (below := below) (meth := meth) (H := s.heap) (locs := []) (cells := 0) (slots := 0) (g := F0 m pc ls st) (As := av) (rest := rest) C0.1 hK (cwv_of cw C0.1.2.2.2.2 hR) ⟨fun x U g mk q => ⟨q.1, bx_blind g mk x q.2⟩, xr_net C0 hXM, fun U hU hW => ⟨rfl, EV.at hE va_S.rf hW hU, by rw [hU]; exact hX⟩⟩ rfl hn hsz hst (lv_room hW) hdg ⟨by omega, by omega⟩
  intro T hT X
  rcases hrun T hT X with ⟨v', st₀, t, T', L, h0, X', hL, e1, e2, ⟨⟨v, τ, hF, hv, hP⟩, hFr⟩, stp⟩ | ⟨q, st₀, t, T', L, E, ce, h0, X', hL, e1, e2, ⟨k, hF, hE1, hz, hkp⟩, hce, hcv, hcl, stp⟩
  · cases hv
    rw [h0] at hF
    rw [Nat.zero_add, Nat.zero_add] at X'
    obtain ⟨t2, a1, b1⟩ := kk v τ T'.heap ([] ++ L) hF (by rw [e1]; exact hP) (vx_keep (A1 := A) h0 e1 va_S.rf (fun q _ h => h) (fun q h => h) hL hFr).2.2 T' rfl X'
    exact ⟨t2, stp t2 a1, b1⟩
  · rw [h0] at hF
    rw [Nat.zero_add, Nat.zero_add] at X'
    obtain ⟨t2, a1, b1⟩ := kx k E ce q T'.heap ([] ++ L) (exE_er hF) hE1 (by rw [e1]; exact hce) hcv hcl (by rw [e1, ← h0]; exact hz) (by rw [e1, ← h0]; exact hkp) (fun z hz => hL z (by simpa using hz)) T' rfl X'
    exact ⟨t2, stp.trans a1, b1⟩
theorem cc_HT {α : Type} {vf : α → Option Value} {F : Except Nat α} (C0 : Cx D a p s m args c cc nL own) (hE : EV D a e0 A s s.heap) (hX : XP D a x e0 A σ s.heap) (hK : KT0 l y bytes maxL ret fr lo mc ms (.ref x :: av) (BX D a x e0 A σ) vf F) (cw : CWV own RX10 idx y bytes maxL ret n) (hR : okR R maxL fr lo)
    (hst : st = av.reverse ++ .ref x :: rest) (hn : av.length = n) (hsz : ls.size = nL) (hW : (rest.map fun v => v.category).sum ≤ 8) (hc : mc ≤ R.cells) (hs : ms ≤ R.slots) (hdg : decode cc pc = .ok (.invokevirtual idx, 3))
    (kx : ∀ (k : Nat) (E : String) (ce : Cell) (q : Nat) (H1 : Heap) (locs1 : List Loc), exm σ F = .error k → E = exN k → H1[q]? = some ce → ce.vm = .none → s.vm.findClass E = some ce.cls → s.heap.size ≤ H1.size → (∀ z, z < s.heap.size → H1[z]? = s.heap[z]?) → (∀ l ∈ locs1, A l.base) → vx_W p l e R s m args below meth c H1 locs1 mc ms Q (F0 m pc ls rest) q)
    (kk : ∀ v τ H1 locs1, exm σ F = .ok (v, τ) → XP D a x e0 A τ H1 → va_S A s.heap H1 locs1 → W p l e R s m args below meth c H1 locs1 mc ms Q (F0 m (pc + 3) ls ((vf v).toList ++ rest))) : W p l e R s m args below meth c s.heap [] 0 0 Q (F0 m pc ls st) := by
  have hXM : HX D a x e0 A σ s.heap s.heap [] := ⟨hX, va_S.rf⟩
  refine cc_TV C0 hE hXM hK cw hR (xr_net C0 hXM) hst hn hsz hW (by omega) (by omega) hdg (fun k E ce q H1 hF h1 h2 h3 h4 h5 h6 => ?_) (fun v hF => ?_)
  · rw [Nat.zero_add, Nat.zero_add]
    exact kx k E ce q H1 [] (by rw [hF]; rfl) h1 h2 h3 h4 h5 h6 (fun _ h => nomatch h)
  · rw [Nat.zero_add, Nat.zero_add]
    exact kk v σ s.heap [] (by rw [hF]; rfl) hX va_S.rf
/-- the answer is laid down -/
theorem wx_last (C0 : Cx D a p s m args c cc nL own) {v : Int64} (hat : va_at D vwCl (oo, .inl (a 1, 1, .inr (.inl f))) H) (hdg : decode cc pc = .ok (.lastore, 1))
    (kk : ∀ (H1 : Heap) (locs1 : List Loc), va_at D vwCl (oo, .inl (a 1, 1, .inr (.inl (va_up f 0 v)))) H1 → H1.size = H.size → (∀ z, z ≠ oo → H1[z]? = H[z]?) → (∀ {A : Nat → Prop} {H0 : Heap}, A oo → va_S A H0 H locs → va_S A H0 H1 locs1) → W p l e R s m args below meth c H1 locs1 cells slots Q (F0 m (pc + 1) ls rest)) : W p l e R s m args below meth c H locs cells slots Q (F0 m pc ls (.long v :: .int 0 :: .ref oo :: rest)) := by
  refine W.last (cell := vp_cell (a 1) (1, .inr (.inl f))) C0.1.1 C0.1.2.1 hat ((C0.2.2 1 _ rfl).1 1 (fun j => .long (f j))) (fun q => by cases q) (by show ¬ ((0 : Int32) < 0 ∨ (arrV _ _ _).slots.size ≤ _); rw [arrV_size]; show ¬ ((0 : Int32) < 0 ∨ 1 ≤ (0 : Int32).toNatClampNeg); decide) rfl rfl hdg fun H1 e z oq => ?_
  refine kk H1 _ ?_ z oq (fun hA hS => hS.put z oq hA)
  show H1[oo]? = some (vp_cell _ _)
  rw [e]
  rw [vp_cell_l, vp_cell_l, arrV_store]
  congr 2
  funext j
  rw [show (0 : Int32).toNatClampNeg = 0 from by decide]
  by_cases hq : j = 0
  · subst hq
    simp [updV, va_up]
  · simp [updV, va_up, hq]
theorem XP.kept1 {H1 : Heap} {q : Nat} (h : XP D a x e0 A σ H) (hq : ¬ A q) (hk : ∀ z, z ≠ q → H1[z]? = H[z]?) : XP D a x e0 A σ H1 := by
  obtain ⟨Mp, ow, hM, hs⟩ := h
  exact ⟨Mp, ow, fun z en hz => ⟨(hM z en hz).1.kept (hk z (fun h => hq (h ▸ (hM z en hz).2.1))), (hM z en hz).2⟩, hs⟩
end XHELP

theorem cbx_1 : Cond.castable (exN 1) (exN 1) ∈ NBW := by decide +kernel
theorem cbx_2 : Cond.castable (exN 2) (exN 2) ∈ NBW := by decide +kernel
theorem cbx_3 : Cond.castable (exN 3) (exN 3) ∈ NBW := by decide +kernel
theorem cw_L_26 : CWV RL RX10 26 yX10_begin cX10_begin 7 none 5 := ⟨q_624, q_625, q_626, q_51, q_627, rfl, ⟨by decide +kernel, by decide +kernel, by decide +kernel⟩⟩
theorem cw_L_7 : CWV RL RX10 7 yX10_camera cX10_camera 4 ((some .int)) 3 := ⟨q_316, q_317, q_318, q_51, q_319, rfl, ⟨by decide +kernel, by decide +kernel, by decide +kernel⟩⟩
theorem cw_L_63 : CWV RL RX10 63 yX10_chance cX10_chance 5 ((some .long)) 3 := ⟨q_900, q_901, q_902, q_51, q_903, rfl, ⟨by decide +kernel, by decide +kernel, by decide +kernel⟩⟩
theorem cw_L_81 : CWV RL RX10 81 yX10_classOf cX10_classOf 4 ((some .int)) 2 := ⟨q_1035, q_1036, q_1037, q_51, q_1038, rfl, ⟨by decide +kernel, by decide +kernel, by decide +kernel⟩⟩
theorem cw_L_17 : CWV RL RX10 17 yX10_clock cX10_clock 5 ((some .int)) 2 := ⟨q_443, q_444, q_445, q_51, q_446, rfl, ⟨by decide +kernel, by decide +kernel, by decide +kernel⟩⟩
theorem cw_L_23 : CWV RL RX10 23 yX10_cloud cX10_cloud 4 ((some .int)) 2 := ⟨q_584, q_585, q_586, q_51, q_587, rfl, ⟨by decide +kernel, by decide +kernel, by decide +kernel⟩⟩
theorem cw_L_88 : CWV RL RX10 88 yX10_cut cX10_cut 6 ((some .int)) 3 := ⟨q_1067, q_1068, q_1069, q_51, q_1070, rfl, ⟨by decide +kernel, by decide +kernel, by decide +kernel⟩⟩
theorem cw_L_108 : CWV RL RX10 108 yX10_doubt cX10_doubt 5 ((some .boolean)) 2 := ⟨q_1130, q_1131, q_1132, q_51, q_1133, rfl, ⟨by decide +kernel, by decide +kernel, by decide +kernel⟩⟩
theorem cw_L_30 : CWV RL RX10 30 yX10_end cX10_end 6 ((some .int)) 4 := ⟨q_686, q_687, q_688, q_51, q_689, rfl, ⟨by decide +kernel, by decide +kernel, by decide +kernel⟩⟩
theorem cw_L_71 : CWV RL RX10 71 yX10_fall cX10_fall 2 ((some .int)) 1 := ⟨q_993, q_994, q_995, q_51, q_996, rfl, ⟨by decide +kernel, by decide +kernel, by decide +kernel⟩⟩
theorem cw_L_67 : CWV RL RX10 67 yX10_find cX10_find 9 ((some .int)) 5 := ⟨q_907, q_908, q_909, q_51, q_910, rfl, ⟨by decide +kernel, by decide +kernel, by decide +kernel⟩⟩
theorem cw_L_34 : CWV RL RX10 34 yX10_fireball cX10_fireball 2 ((some .int)) 1 := ⟨q_700, q_701, q_702, q_51, q_703, rfl, ⟨by decide +kernel, by decide +kernel, by decide +kernel⟩⟩
theorem cw_L_38 : CWV RL RX10 38 yX10_fireballAnew cX10_fireballAnew 5 ((some .int)) 1 := ⟨q_712, q_713, q_714, q_51, q_715, rfl, ⟨by decide +kernel, by decide +kernel, by decide +kernel⟩⟩
theorem cw_L_41 : CWV RL RX10 41 yX10_fireballs cX10_fireballs 2 ((some .int)) 1 := ⟨q_723, q_724, q_725, q_51, q_726, rfl, ⟨by decide +kernel, by decide +kernel, by decide +kernel⟩⟩
theorem cw_L_52 : CWV RL RX10 52 yX10_flux cX10_flux 6 ((some .int)) 3 := ⟨q_772, q_773, q_774, q_51, q_775, rfl, ⟨by decide +kernel, by decide +kernel, by decide +kernel⟩⟩
theorem cw_L_102 : CWV RL RX10 102 yX10_give cX10_give 6 ((some .int)) 2 := ⟨q_1104, q_1105, q_1106, q_51, q_1107, rfl, ⟨by decide +kernel, by decide +kernel, by decide +kernel⟩⟩
theorem cw_L_99 : CWV RL RX10 99 yX10_law cX10_law 4 ((some .int)) 2 := ⟨q_1097, q_1098, q_1099, q_51, q_1100, rfl, ⟨by decide +kernel, by decide +kernel, by decide +kernel⟩⟩
theorem cw_L_91 : CWV RL RX10 91 yX10_lend cX10_lend 6 none 2 := ⟨q_1082, q_1083, q_1084, q_51, q_1085, rfl, ⟨by decide +kernel, by decide +kernel, by decide +kernel⟩⟩
theorem cw_L_74 : CWV RL RX10 74 yX10_minerals cX10_minerals 6 none 4 := ⟨q_1009, q_1010, q_1011, q_51, q_1012, rfl, ⟨by decide +kernel, by decide +kernel, by decide +kernel⟩⟩
theorem cw_L_105 : CWV RL RX10 105 yX10_name cX10_name 4 ((some .int)) 2 := ⟨q_1114, q_1115, q_1116, q_51, q_1117, rfl, ⟨by decide +kernel, by decide +kernel, by decide +kernel⟩⟩
theorem cw_L_84 : CWV RL RX10 84 yX10_pair cX10_pair 9 ((some .boolean)) 3 := ⟨q_1054, q_1055, q_1056, q_51, q_1057, rfl, ⟨by decide +kernel, by decide +kernel, by decide +kernel⟩⟩
theorem cw_L_78 : CWV RL RX10 78 yX10_rule cX10_rule 4 none 3 := ⟨q_1016, q_1017, q_1018, q_51, q_1019, rfl, ⟨by decide +kernel, by decide +kernel, by decide +kernel⟩⟩
theorem cw_L_95 : CWV RL RX10 95 yX10_steal cX10_steal 3 none 1 := ⟨q_1090, q_1091, q_1092, q_51, q_1093, rfl, ⟨by decide +kernel, by decide +kernel, by decide +kernel⟩⟩
theorem cw_L_112 : CWV RL RX10 112 yX10_stone cX10_stone 4 ((some .int)) 2 := ⟨q_1138, q_1139, q_1140, q_51, q_1141, rfl, ⟨by decide +kernel, by decide +kernel, by decide +kernel⟩⟩
theorem cw_L_48 : CWV RL RX10 48 yX10_stream cX10_stream 5 ((some .boolean)) 2 := ⟨q_754, q_755, q_756, q_51, q_757, rfl, ⟨by decide +kernel, by decide +kernel, by decide +kernel⟩⟩
theorem cw_L_44 : CWV RL RX10 44 yX10_told cX10_told 4 ((some .long)) 2 := ⟨q_738, q_739, q_740, q_51, q_741, rfl, ⟨by decide +kernel, by decide +kernel, by decide +kernel⟩⟩
theorem cw_L_59 : CWV RL RX10 59 yX10_walk cX10_walk 6 ((some .long)) 4 := ⟨q_809, q_810, q_811, q_51, q_812, rfl, ⟨by decide +kernel, by decide +kernel, by decide +kernel⟩⟩
theorem cw_L_115 : CWV RL RX10 115 yX10_whole cX10_whole 6 ((some .int)) 1 := ⟨q_1162, q_1163, q_1164, q_51, q_1165, rfl, ⟨by decide +kernel, by decide +kernel, by decide +kernel⟩⟩
theorem cw_L_55 : CWV RL RX10 55 yX10_wind cX10_wind 5 none 3 := ⟨q_780, q_781, q_782, q_51, q_783, rfl, ⟨by decide +kernel, by decide +kernel, by decide +kernel⟩⟩
def cd_begin : Nat → Int32 := (fun k => if k = 3 then 1 else if k = 1 then 2 else if k = 2 then 3 else 0)
def FL_begin (σ : XS) (x : Nat) (p1 : Int32) (p2 : Int32) (p3 : Int32) (p4 : Int32) (p5 : Int32) : Nat → Except Nat (Unit × XS) := (fun nq => f_X10_begin σ x nq p1 p2 p3 p4 p5)
set_option maxRecDepth 100000 in
theorem k_L_begin (l : Launch) (D : va_G) (a : Nat → ClassId) (x e0 : Nat) (A : Nat → Prop) (hfl : l.stackTraces = false) (oo : Nat) (f : Nat → Int64) (σ : XS) (p1 : Int32) (p2 : Int32) (p3 : Int32) (p4 : Int32) (p5 : Int32) (hok : ∀ nq, xk σ nq = 0 → of_X10_begin σ x nq p1 p2 p3 p4 p5) (her : ∀ nq k, (FL_begin σ x p1 p2 p3 p4 p5) nq = .error k → k = 3 ∨ k = 1 ∨ k = 2) : KH l yL_begin cL_begin 7 [(0, 11, 14, 21), (0, 11, 18, 13), (0, 11, 22, 15)] 9 160 6 42 [.ref x, .int p1, .int p2, .int p3, .int p4, .int p5] (fun z => A z ∨ z = oo) (BH D a x e0 A oo f σ) (PH D a x e0 A oo cd_begin cvV (FL_begin σ x p1 p2 p3 p4 p5) f σ) := by
  refine goH (D := D) (a := a) (by decide +kernel) (fun _ h => h.1.1.1) (Nat.le_of_ble_eq_true rfl) ?_
  intro p e s m args below meth c ls R Q hRf hRl hRc hRs C htab hB hl ret
  obtain ⟨⟨hE, hX⟩, hat, hAo, hNc⟩ := hB
  have hl : lv_has ls 7 [(0, .ref x), (1, .int p1), (2, .int p2), (3, .int p3), (4, .int p4), (5, .int p5)] := hl
  have hx := C.1.1
  have hb := C.1.2.1
  have hts := C.1.2.2.2.2
  have hown := C.1.2.2.2.1
  have hup : ∀ {H : Heap} {locs : List Loc}, va_S A s.heap H locs → va_S (fun z => A z ∨ z = oo) s.heap H locs := fun h => va_S_up h (fun _ => Or.inl)
  refine lv_aload_n hx hb dL_begin_0 rfl (lv_at hl 0 rfl) ?_
  refine lv_iload_n hx hb dL_begin_1 rfl (lv_at hl 1 rfl) ?_
  refine lv_iload_n hx hb dL_begin_2 rfl (lv_at hl 2 rfl) ?_
  refine lv_iload_n hx hb dL_begin_3 rfl (lv_at hl 3 rfl) ?_
  refine lv_iload hx hb dL_begin_4 (lv_at hl 4 rfl) ?_
  refine lv_iload hx hb dL_begin_6 (lv_at hl 5 rfl) ?_
  refine cc_HU (av := [.int p1, .int p2, .int p3, .int p4, .int p5]) (rest := []) C hE hX (k_X10_begin l D a x e0 A hfl σ p1 p2 p3 p4 p5 hok) cw_L_26 (okR_of hRf hRl (Nat.le_of_ble_eq_true rfl) (Nat.le_of_ble_eq_true rfl)) rfl rfl hl.1 (Nat.le_of_ble_eq_true rfl) (by rw [hRc]; exact Nat.le_refl _) (by rw [hRs]; exact Nat.le_refl _) dL_begin_8 (fun k E ce q H1 locs1 hF hE1 hq hv hcl hz hkp hL => ?_) (fun v τ H1 locs1 hF hX1 hS1 => ?_)
  · have hX1 : XP D a x e0 A σ H1 := hX.ext hkp
    have hat1 := hat.kept (hkp oo hat.lt)
    have hS1 : va_S A s.heap H1 locs1 := ⟨hz, fun z h _ => hkp z h, hL⟩
    have hF9 : (FL_begin σ x p1 p2 p3 p4 p5) s.heap.size = .error k := hF
    rcases her _ _ hF9 with rfl | rfl | rfl
    · refine vx_catch (name := exN 3) (E := exN 3) hown [] ⟨0, 11, 14, 21⟩ [⟨0, 11, 18, 13⟩, ⟨0, 11, 22, 15⟩] (htab.trans rfl) (fun z hz9 => nomatch hz9) rfl (by decide) (hts _ q_442) (va_Nw.use rfl (hE.2.1 _ cbx_3)) hq hv (by rw [← hE1]; exact hcl) ?_
      refine lv_astore (lv' := (6, .ref q) :: [(0, .ref x), (1, .int p1), (2, .int p2), (3, .int p3), (4, .int p4), (5, .int p5)]) hx hb dL_begin_14 hl (by decide) rfl (fun ls hl => ?_)
      refine lv_iconst (v := 1) hx hb dL_begin_16 (by decide) ?_
      refine ret _ _ _ _ _ (hup hS1) dL_begin_17 ⟨by rw [hF9]; rfl, by rw [hF9]; exact hX1, by rw [hF9]; exact hat1⟩
    · refine vx_catch (name := exN 1) (E := exN 1) hown [⟨0, 11, 14, 21⟩] ⟨0, 11, 18, 13⟩ [⟨0, 11, 22, 15⟩] (htab.trans rfl) (fun z hz9 => by
        rcases List.mem_cons.mp hz9 with rfl | hz9
        · exact Or.inr ⟨by decide, exN 3, hts _ q_442, hNc (exN 1, exN 3) (by decide +kernel)⟩
        · exact nomatch hz9) rfl (by decide) (hts _ q_314) (va_Nw.use rfl (hE.2.1 _ cbx_1)) hq hv (by rw [← hE1]; exact hcl) ?_
      refine lv_astore (lv' := (6, .ref q) :: [(0, .ref x), (1, .int p1), (2, .int p2), (3, .int p3), (4, .int p4), (5, .int p5)]) hx hb dL_begin_18 hl (by decide) rfl (fun ls hl => ?_)
      refine lv_iconst (v := 2) hx hb dL_begin_20 (by decide) ?_
      refine ret _ _ _ _ _ (hup hS1) dL_begin_21 ⟨by rw [hF9]; rfl, by rw [hF9]; exact hX1, by rw [hF9]; exact hat1⟩
    · refine vx_catch (name := exN 2) (E := exN 2) hown [⟨0, 11, 14, 21⟩, ⟨0, 11, 18, 13⟩] ⟨0, 11, 22, 15⟩ [] (htab.trans rfl) (fun z hz9 => by
        rcases List.mem_cons.mp hz9 with rfl | hz9
        · exact Or.inr ⟨by decide, exN 3, hts _ q_442, hNc (exN 2, exN 3) (by decide +kernel)⟩
        rcases List.mem_cons.mp hz9 with rfl | hz9
        · exact Or.inr ⟨by decide, exN 1, hts _ q_314, hNc (exN 2, exN 1) (by decide +kernel)⟩
        · exact nomatch hz9) rfl (by decide) (hts _ q_315) (va_Nw.use rfl (hE.2.1 _ cbx_2)) hq hv (by rw [← hE1]; exact hcl) ?_
      refine lv_astore (lv' := (6, .ref q) :: [(0, .ref x), (1, .int p1), (2, .int p2), (3, .int p3), (4, .int p4), (5, .int p5)]) hx hb dL_begin_22 hl (by decide) rfl (fun ls hl => ?_)
      refine lv_iconst (v := 3) hx hb dL_begin_24 (by decide) ?_
      refine ret _ _ _ _ _ (hup hS1) dL_begin_25 ⟨by rw [hF9]; rfl, by rw [hF9]; exact hX1, by rw [hF9]; exact hat1⟩
  · have hF9 : (FL_begin σ x p1 p2 p3 p4 p5) s.heap.size = .ok (v, τ) := hF
    have hat1 := hat.kept (hS1.2.1 oo hat.lt hAo)
    refine lv_goto (tgt := 26) hx hb dL_begin_11 (by decide) ?_
    refine lv_iconst (v := 0) hx hb dL_begin_26 (by decide) ?_
    exact ret _ _ _ _ _ (hup hS1) dL_begin_27 ⟨by rw [hF9]; rfl, by rw [hF9]; exact hX1, by rw [hF9]; exact hat1⟩
def cd_camera : Nat → Int32 := (fun k => if k = 1 then 1 else if k = 2 then 2 else 0)
def FL_camera (σ : XS) (x : Nat) (p1 : Int32) (p2 : Int32) (p3 : Int32) : Nat → Except Nat (Int32 × XS) := (fun nq => f_X10_camera σ x nq p1 p2 p3)
set_option maxRecDepth 100000 in
theorem k_L_camera (l : Launch) (D : va_G) (a : Nat → ClassId) (x e0 : Nat) (A : Nat → Prop) (hfl : l.stackTraces = false) (oo : Nat) (f : Nat → Int64) (σ : XS) (p1 : Int32) (p2 : Int32) (p3 : Int32) (hok : ∀ nq, xk σ nq = 0 → of_X10_camera σ x nq p1 p2 p3) (her : ∀ nq k, (FL_camera σ x p1 p2 p3) nq = .error k → k = 1 ∨ k = 2) : KH l yL_camera cL_camera 6 [(0, 12, 15, 13), (0, 12, 19, 15)] 9 179 5 321 [.ref x, .int p1, .int p2, .int p3, .ref oo] (fun z => A z ∨ z = oo) (BH D a x e0 A oo f σ) (PH D a x e0 A oo cd_camera cvI (FL_camera σ x p1 p2 p3) f σ) := by
  refine goH (D := D) (a := a) (by decide +kernel) (fun _ h => h.1.1.1) (Nat.le_of_ble_eq_true rfl) ?_
  intro p e s m args below meth c ls R Q hRf hRl hRc hRs C htab hB hl ret
  obtain ⟨⟨hE, hX⟩, hat, hAo, hNc⟩ := hB
  have hl : lv_has ls 6 [(0, .ref x), (1, .int p1), (2, .int p2), (3, .int p3), (4, .ref oo)] := hl
  have hx := C.1.1
  have hb := C.1.2.1
  have hts := C.1.2.2.2.2
  have hown := C.1.2.2.2.1
  have hup : ∀ {H : Heap} {locs : List Loc}, va_S A s.heap H locs → va_S (fun z => A z ∨ z = oo) s.heap H locs := fun h => va_S_up h (fun _ => Or.inl)
  refine lv_aload hx hb dL_camera_0 (lv_at hl 4 rfl) ?_
  refine lv_iconst (v := 0) hx hb dL_camera_2 (by decide) ?_
  refine lv_aload_n hx hb dL_camera_3 rfl (lv_at hl 0 rfl) ?_
  refine lv_iload_n hx hb dL_camera_4 rfl (lv_at hl 1 rfl) ?_
  refine lv_iload_n hx hb dL_camera_5 rfl (lv_at hl 2 rfl) ?_
  refine lv_iload_n hx hb dL_camera_6 rfl (lv_at hl 3 rfl) ?_
  refine cc_HU (av := [.int p1, .int p2, .int p3]) (rest := [.int 0, .ref oo]) C hE hX (k_X10_camera l D a x e0 A hfl σ p1 p2 p3 hok) cw_L_7 (okR_of hRf hRl (Nat.le_of_ble_eq_true rfl) (Nat.le_of_ble_eq_true rfl)) rfl rfl hl.1 (Nat.le_of_ble_eq_true rfl) (by rw [hRc]; exact Nat.le_refl _) (by rw [hRs]; exact Nat.le_refl _) dL_camera_7 (fun k E ce q H1 locs1 hF hE1 hq hv hcl hz hkp hL => ?_) (fun v τ H1 locs1 hF hX1 hS1 => ?_)
  · have hX1 : XP D a x e0 A σ H1 := hX.ext hkp
    have hat1 := hat.kept (hkp oo hat.lt)
    have hS1 : va_S A s.heap H1 locs1 := ⟨hz, fun z h _ => hkp z h, hL⟩
    have hF9 : (FL_camera σ x p1 p2 p3) s.heap.size = .error k := hF
    rcases her _ _ hF9 with rfl | rfl
    · refine vx_catch (name := exN 1) (E := exN 1) hown [] ⟨0, 12, 15, 13⟩ [⟨0, 12, 19, 15⟩] (htab.trans rfl) (fun z hz9 => nomatch hz9) rfl (by decide) (hts _ q_314) (va_Nw.use rfl (hE.2.1 _ cbx_1)) hq hv (by rw [← hE1]; exact hcl) ?_
      refine lv_astore (lv' := (5, .ref q) :: [(0, .ref x), (1, .int p1), (2, .int p2), (3, .int p3), (4, .ref oo)]) hx hb dL_camera_15 hl (by decide) rfl (fun ls hl => ?_)
      refine lv_iconst (v := 1) hx hb dL_camera_17 (by decide) ?_
      refine ret _ _ _ _ _ (hup hS1) dL_camera_18 ⟨by rw [hF9]; rfl, by rw [hF9]; exact hX1, by rw [hF9]; exact hat1⟩
    · refine vx_catch (name := exN 2) (E := exN 2) hown [⟨0, 12, 15, 13⟩] ⟨0, 12, 19, 15⟩ [] (htab.trans rfl) (fun z hz9 => by
        rcases List.mem_cons.mp hz9 with rfl | hz9
        · exact Or.inr ⟨by decide, exN 1, hts _ q_314, hNc (exN 2, exN 1) (by decide +kernel)⟩
        · exact nomatch hz9) rfl (by decide) (hts _ q_315) (va_Nw.use rfl (hE.2.1 _ cbx_2)) hq hv (by rw [← hE1]; exact hcl) ?_
      refine lv_astore (lv' := (5, .ref q) :: [(0, .ref x), (1, .int p1), (2, .int p2), (3, .int p3), (4, .ref oo)]) hx hb dL_camera_19 hl (by decide) rfl (fun ls hl => ?_)
      refine lv_iconst (v := 2) hx hb dL_camera_21 (by decide) ?_
      refine ret _ _ _ _ _ (hup hS1) dL_camera_22 ⟨by rw [hF9]; rfl, by rw [hF9]; exact hX1, by rw [hF9]; exact hat1⟩
  · have hF9 : (FL_camera σ x p1 p2 p3) s.heap.size = .ok (v, τ) := hF
    have hat1 := hat.kept (hS1.2.1 oo hat.lt hAo)
    refine lv_i2l (v := v.toInt64) hx hb dL_camera_10 rfl ?_
    refine wx_last C hat1 dL_camera_11 (fun H2 locs2 g1 g2 g3 g4 => ?_)
    refine lv_goto (tgt := 23) hx hb dL_camera_12 (by decide) ?_
    refine lv_iconst (v := 0) hx hb dL_camera_23 (by decide) ?_
    exact ret _ _ _ _ _ (g4 (Or.inr rfl) (hup hS1)) dL_camera_24 ⟨by rw [hF9]; rfl, by rw [hF9]; exact (hX1.kept1 hAo g3), by rw [hF9]; exact g1⟩
def cd_chance : Nat → Int32 := (fun k => if k = 3 then 1 else if k = 1 then 2 else 0)
def FL_chance (σ : XS) (x : Nat) (p1 : Int32) (p2 : Int32) (p3 : Int32) : Nat → Except Nat (Int64 × XS) := (fun _ => f_X10_chance σ x p1 p2 p3)
set_option maxRecDepth 100000 in
theorem k_L_chance (l : Launch) (D : va_G) (a : Nat → ClassId) (x e0 : Nat) (A : Nat → Prop) (hfl : l.stackTraces = false) (oo : Nat) (f : Nat → Int64) (σ : XS) (p1 : Int32) (p2 : Int32) (p3 : Int32) (hok : of_X10_chance σ x p1 p2 p3) (her : ∀ nq k, (FL_chance σ x p1 p2 p3) nq = .error k → k = 3 ∨ k = 1) : KH l yL_chance cL_chance 6 [(0, 11, 14, 21), (0, 11, 18, 13)] 9 169 3 18 [.ref x, .int p1, .int p2, .int p3, .ref oo] (fun z => A z ∨ z = oo) (BH D a x e0 A oo f σ) (PH D a x e0 A oo cd_chance cvL (FL_chance σ x p1 p2 p3) f σ) := by
  refine goH (D := D) (a := a) (by decide +kernel) (fun _ h => h.1.1.1) (Nat.le_of_ble_eq_true rfl) ?_
  intro p e s m args below meth c ls R Q hRf hRl hRc hRs C htab hB hl ret
  obtain ⟨⟨hE, hX⟩, hat, hAo, hNc⟩ := hB
  have hl : lv_has ls 6 [(0, .ref x), (1, .int p1), (2, .int p2), (3, .int p3), (4, .ref oo)] := hl
  have hx := C.1.1
  have hb := C.1.2.1
  have hts := C.1.2.2.2.2
  have hown := C.1.2.2.2.1
  have hup : ∀ {H : Heap} {locs : List Loc}, va_S A s.heap H locs → va_S (fun z => A z ∨ z = oo) s.heap H locs := fun h => va_S_up h (fun _ => Or.inl)
  refine lv_aload hx hb dL_chance_0 (lv_at hl 4 rfl) ?_
  refine lv_iconst (v := 0) hx hb dL_chance_2 (by decide) ?_
  refine lv_aload_n hx hb dL_chance_3 rfl (lv_at hl 0 rfl) ?_
  refine lv_iload_n hx hb dL_chance_4 rfl (lv_at hl 1 rfl) ?_
  refine lv_iload_n hx hb dL_chance_5 rfl (lv_at hl 2 rfl) ?_
  refine lv_iload_n hx hb dL_chance_6 rfl (lv_at hl 3 rfl) ?_
  refine cc_HU (av := [.int p1, .int p2, .int p3]) (rest := [.int 0, .ref oo]) C hE hX (k_X10_chance l D a x e0 A hfl σ p1 p2 p3 hok) cw_L_63 (okR_of hRf hRl (Nat.le_of_ble_eq_true rfl) (Nat.le_of_ble_eq_true rfl)) rfl rfl hl.1 (Nat.le_of_ble_eq_true rfl) (by rw [hRc]; exact Nat.le_refl _) (by rw [hRs]; exact Nat.le_refl _) dL_chance_7 (fun k E ce q H1 locs1 hF hE1 hq hv hcl hz hkp hL => ?_) (fun v τ H1 locs1 hF hX1 hS1 => ?_)
  · have hX1 : XP D a x e0 A σ H1 := hX.ext hkp
    have hat1 := hat.kept (hkp oo hat.lt)
    have hS1 : va_S A s.heap H1 locs1 := ⟨hz, fun z h _ => hkp z h, hL⟩
    have hF9 : (FL_chance σ x p1 p2 p3) s.heap.size = .error k := hF
    rcases her _ _ hF9 with rfl | rfl
    · refine vx_catch (name := exN 3) (E := exN 3) hown [] ⟨0, 11, 14, 21⟩ [⟨0, 11, 18, 13⟩] (htab.trans rfl) (fun z hz9 => nomatch hz9) rfl (by decide) (hts _ q_442) (va_Nw.use rfl (hE.2.1 _ cbx_3)) hq hv (by rw [← hE1]; exact hcl) ?_
      refine lv_astore (lv' := (5, .ref q) :: [(0, .ref x), (1, .int p1), (2, .int p2), (3, .int p3), (4, .ref oo)]) hx hb dL_chance_14 hl (by decide) rfl (fun ls hl => ?_)
      refine lv_iconst (v := 1) hx hb dL_chance_16 (by decide) ?_
      refine ret _ _ _ _ _ (hup hS1) dL_chance_17 ⟨by rw [hF9]; rfl, by rw [hF9]; exact hX1, by rw [hF9]; exact hat1⟩
    · refine vx_catch (name := exN 1) (E := exN 1) hown [⟨0, 11, 14, 21⟩] ⟨0, 11, 18, 13⟩ [] (htab.trans rfl) (fun z hz9 => by
        rcases List.mem_cons.mp hz9 with rfl | hz9
        · exact Or.inr ⟨by decide, exN 3, hts _ q_442, hNc (exN 1, exN 3) (by decide +kernel)⟩
        · exact nomatch hz9) rfl (by decide) (hts _ q_314) (va_Nw.use rfl (hE.2.1 _ cbx_1)) hq hv (by rw [← hE1]; exact hcl) ?_
      refine lv_astore (lv' := (5, .ref q) :: [(0, .ref x), (1, .int p1), (2, .int p2), (3, .int p3), (4, .ref oo)]) hx hb dL_chance_18 hl (by decide) rfl (fun ls hl => ?_)
      refine lv_iconst (v := 2) hx hb dL_chance_20 (by decide) ?_
      refine ret _ _ _ _ _ (hup hS1) dL_chance_21 ⟨by rw [hF9]; rfl, by rw [hF9]; exact hX1, by rw [hF9]; exact hat1⟩
  · have hF9 : (FL_chance σ x p1 p2 p3) s.heap.size = .ok (v, τ) := hF
    have hat1 := hat.kept (hS1.2.1 oo hat.lt hAo)
    refine wx_last C hat1 dL_chance_10 (fun H2 locs2 g1 g2 g3 g4 => ?_)
    refine lv_goto (tgt := 22) hx hb dL_chance_11 (by decide) ?_
    refine lv_iconst (v := 0) hx hb dL_chance_22 (by decide) ?_
    exact ret _ _ _ _ _ (g4 (Or.inr rfl) (hup hS1)) dL_chance_23 ⟨by rw [hF9]; rfl, by rw [hF9]; exact (hX1.kept1 hAo g3), by rw [hF9]; exact g1⟩
def cd_classOf : Nat → Int32 := (fun k => if k = 3 then 1 else if k = 1 then 2 else 0)
def FL_classOf (σ : XS) (x : Nat) (p1 : Int32) (p2 : Int32) : Nat → Except Nat (Int32 × XS) := (fun _ => exm σ (f_X10_classOf σ x p1 p2))
set_option maxRecDepth 100000 in
theorem k_L_classOf (l : Launch) (D : va_G) (a : Nat → ClassId) (x e0 : Nat) (A : Nat → Prop) (hfl : l.stackTraces = false) (oo : Nat) (f : Nat → Int64) (σ : XS) (p1 : Int32) (p2 : Int32) (hok : of_X10_classOf σ x p1 p2) (her : ∀ nq k, (FL_classOf σ x p1 p2) nq = .error k → k = 3 ∨ k = 1) : KH l yL_classOf cL_classOf 5 [(0, 10, 13, 21), (0, 10, 17, 13)] 8 137 2 12 [.ref x, .int p1, .int p2, .ref oo] (fun z => A z ∨ z = oo) (BH D a x e0 A oo f σ) (PH D a x e0 A oo cd_classOf cvI (FL_classOf σ x p1 p2) f σ) := by
  refine goH (D := D) (a := a) (by decide +kernel) (fun _ h => h.1.1.1) (Nat.le_of_ble_eq_true rfl) ?_
  intro p e s m args below meth c ls R Q hRf hRl hRc hRs C htab hB hl ret
  obtain ⟨⟨hE, hX⟩, hat, hAo, hNc⟩ := hB
  have hl : lv_has ls 5 [(0, .ref x), (1, .int p1), (2, .int p2), (3, .ref oo)] := hl
  have hx := C.1.1
  have hb := C.1.2.1
  have hts := C.1.2.2.2.2
  have hown := C.1.2.2.2.1
  have hup : ∀ {H : Heap} {locs : List Loc}, va_S A s.heap H locs → va_S (fun z => A z ∨ z = oo) s.heap H locs := fun h => va_S_up h (fun _ => Or.inl)
  refine lv_aload_n hx hb dL_classOf_0 rfl (lv_at hl 3 rfl) ?_
  refine lv_iconst (v := 0) hx hb dL_classOf_1 (by decide) ?_
  refine lv_aload_n hx hb dL_classOf_2 rfl (lv_at hl 0 rfl) ?_
  refine lv_iload_n hx hb dL_classOf_3 rfl (lv_at hl 1 rfl) ?_
  refine lv_iload_n hx hb dL_classOf_4 rfl (lv_at hl 2 rfl) ?_
  refine cc_HT (av := [.int p1, .int p2]) (rest := [.int 0, .ref oo]) C hE hX (k_X10_classOf l D a x e0 A hfl σ p1 p2 hok) cw_L_81 (okR_of hRf hRl (Nat.le_of_ble_eq_true rfl) (Nat.le_of_ble_eq_true rfl)) rfl rfl hl.1 (Nat.le_of_ble_eq_true rfl) (by rw [hRc]; exact Nat.le_refl _) (by rw [hRs]; exact Nat.le_refl _) dL_classOf_5 (fun k E ce q H1 locs1 hF hE1 hq hv hcl hz hkp hL => ?_) (fun v τ H1 locs1 hF hX1 hS1 => ?_)
  · have hX1 : XP D a x e0 A σ H1 := hX.ext hkp
    have hat1 := hat.kept (hkp oo hat.lt)
    have hS1 : va_S A s.heap H1 locs1 := ⟨hz, fun z h _ => hkp z h, hL⟩
    have hF9 : (FL_classOf σ x p1 p2) s.heap.size = .error k := hF
    rcases her _ _ hF9 with rfl | rfl
    · refine vx_catch (name := exN 3) (E := exN 3) hown [] ⟨0, 10, 13, 21⟩ [⟨0, 10, 17, 13⟩] (htab.trans rfl) (fun z hz9 => nomatch hz9) rfl (by decide) (hts _ q_442) (va_Nw.use rfl (hE.2.1 _ cbx_3)) hq hv (by rw [← hE1]; exact hcl) ?_
      refine lv_astore (lv' := (4, .ref q) :: [(0, .ref x), (1, .int p1), (2, .int p2), (3, .ref oo)]) hx hb dL_classOf_13 hl (by decide) rfl (fun ls hl => ?_)
      refine lv_iconst (v := 1) hx hb dL_classOf_15 (by decide) ?_
      refine ret _ _ _ _ _ (hup hS1) dL_classOf_16 ⟨by rw [hF9]; rfl, by rw [hF9]; exact hX1, by rw [hF9]; exact hat1⟩
    · refine vx_catch (name := exN 1) (E := exN 1) hown [⟨0, 10, 13, 21⟩] ⟨0, 10, 17, 13⟩ [] (htab.trans rfl) (fun z hz9 => by
        rcases List.mem_cons.mp hz9 with rfl | hz9
        · exact Or.inr ⟨by decide, exN 3, hts _ q_442, hNc (exN 1, exN 3) (by decide +kernel)⟩
        · exact nomatch hz9) rfl (by decide) (hts _ q_314) (va_Nw.use rfl (hE.2.1 _ cbx_1)) hq hv (by rw [← hE1]; exact hcl) ?_
      refine lv_astore (lv' := (4, .ref q) :: [(0, .ref x), (1, .int p1), (2, .int p2), (3, .ref oo)]) hx hb dL_classOf_17 hl (by decide) rfl (fun ls hl => ?_)
      refine lv_iconst (v := 2) hx hb dL_classOf_19 (by decide) ?_
      refine ret _ _ _ _ _ (hup hS1) dL_classOf_20 ⟨by rw [hF9]; rfl, by rw [hF9]; exact hX1, by rw [hF9]; exact hat1⟩
  · have hF9 : (FL_classOf σ x p1 p2) s.heap.size = .ok (v, τ) := hF
    have hat1 := hat.kept (hS1.2.1 oo hat.lt hAo)
    refine lv_i2l (v := v.toInt64) hx hb dL_classOf_8 rfl ?_
    refine wx_last C hat1 dL_classOf_9 (fun H2 locs2 g1 g2 g3 g4 => ?_)
    refine lv_goto (tgt := 21) hx hb dL_classOf_10 (by decide) ?_
    refine lv_iconst (v := 0) hx hb dL_classOf_21 (by decide) ?_
    exact ret _ _ _ _ _ (g4 (Or.inr rfl) (hup hS1)) dL_classOf_22 ⟨by rw [hF9]; rfl, by rw [hF9]; exact (hX1.kept1 hAo g3), by rw [hF9]; exact g1⟩
def cd_clock : Nat → Int32 := (fun k => if k = 3 then 1 else if k = 1 then 2 else 0)
def FL_clock (σ : XS) (x : Nat) (p1 : Int32) (p2 : Int32) : Nat → Except Nat (Int32 × XS) := (fun _ => f_X10_clock σ x p1 p2)
set_option maxRecDepth 100000 in
theorem k_L_clock (l : Launch) (D : va_G) (a : Nat → ClassId) (x e0 : Nat) (A : Nat → Prop) (hfl : l.stackTraces = false) (oo : Nat) (f : Nat → Int64) (σ : XS) (p1 : Int32) (p2 : Int32) (hok : of_X10_clock σ x p1 p2) (her : ∀ nq k, (FL_clock σ x p1 p2) nq = .error k → k = 3 ∨ k = 1) : KH l yL_clock cL_clock 5 [(0, 10, 13, 21), (0, 10, 17, 13)] 8 180 2 12 [.ref x, .int p1, .int p2, .ref oo] (fun z => A z ∨ z = oo) (BH D a x e0 A oo f σ) (PH D a x e0 A oo cd_clock cvI (FL_clock σ x p1 p2) f σ) := by
  refine goH (D := D) (a := a) (by decide +kernel) (fun _ h => h.1.1.1) (Nat.le_of_ble_eq_true rfl) ?_
  intro p e s m args below meth c ls R Q hRf hRl hRc hRs C htab hB hl ret
  obtain ⟨⟨hE, hX⟩, hat, hAo, hNc⟩ := hB
  have hl : lv_has ls 5 [(0, .ref x), (1, .int p1), (2, .int p2), (3, .ref oo)] := hl
  have hx := C.1.1
  have hb := C.1.2.1
  have hts := C.1.2.2.2.2
  have hown := C.1.2.2.2.1
  have hup : ∀ {H : Heap} {locs : List Loc}, va_S A s.heap H locs → va_S (fun z => A z ∨ z = oo) s.heap H locs := fun h => va_S_up h (fun _ => Or.inl)
  refine lv_aload_n hx hb dL_clock_0 rfl (lv_at hl 3 rfl) ?_
  refine lv_iconst (v := 0) hx hb dL_clock_1 (by decide) ?_
  refine lv_aload_n hx hb dL_clock_2 rfl (lv_at hl 0 rfl) ?_
  refine lv_iload_n hx hb dL_clock_3 rfl (lv_at hl 1 rfl) ?_
  refine lv_iload_n hx hb dL_clock_4 rfl (lv_at hl 2 rfl) ?_
  refine cc_HU (av := [.int p1, .int p2]) (rest := [.int 0, .ref oo]) C hE hX (k_X10_clock l D a x e0 A hfl σ p1 p2 hok) cw_L_17 (okR_of hRf hRl (Nat.le_of_ble_eq_true rfl) (Nat.le_of_ble_eq_true rfl)) rfl rfl hl.1 (Nat.le_of_ble_eq_true rfl) (by rw [hRc]; exact Nat.le_refl _) (by rw [hRs]; exact Nat.le_refl _) dL_clock_5 (fun k E ce q H1 locs1 hF hE1 hq hv hcl hz hkp hL => ?_) (fun v τ H1 locs1 hF hX1 hS1 => ?_)
  · have hX1 : XP D a x e0 A σ H1 := hX.ext hkp
    have hat1 := hat.kept (hkp oo hat.lt)
    have hS1 : va_S A s.heap H1 locs1 := ⟨hz, fun z h _ => hkp z h, hL⟩
    have hF9 : (FL_clock σ x p1 p2) s.heap.size = .error k := hF
    rcases her _ _ hF9 with rfl | rfl
    · refine vx_catch (name := exN 3) (E := exN 3) hown [] ⟨0, 10, 13, 21⟩ [⟨0, 10, 17, 13⟩] (htab.trans rfl) (fun z hz9 => nomatch hz9) rfl (by decide) (hts _ q_442) (va_Nw.use rfl (hE.2.1 _ cbx_3)) hq hv (by rw [← hE1]; exact hcl) ?_
      refine lv_astore (lv' := (4, .ref q) :: [(0, .ref x), (1, .int p1), (2, .int p2), (3, .ref oo)]) hx hb dL_clock_13 hl (by decide) rfl (fun ls hl => ?_)
      refine lv_iconst (v := 1) hx hb dL_clock_15 (by decide) ?_
      refine ret _ _ _ _ _ (hup hS1) dL_clock_16 ⟨by rw [hF9]; rfl, by rw [hF9]; exact hX1, by rw [hF9]; exact hat1⟩
    · refine vx_catch (name := exN 1) (E := exN 1) hown [⟨0, 10, 13, 21⟩] ⟨0, 10, 17, 13⟩ [] (htab.trans rfl) (fun z hz9 => by
        rcases List.mem_cons.mp hz9 with rfl | hz9
        · exact Or.inr ⟨by decide, exN 3, hts _ q_442, hNc (exN 1, exN 3) (by decide +kernel)⟩
        · exact nomatch hz9) rfl (by decide) (hts _ q_314) (va_Nw.use rfl (hE.2.1 _ cbx_1)) hq hv (by rw [← hE1]; exact hcl) ?_
      refine lv_astore (lv' := (4, .ref q) :: [(0, .ref x), (1, .int p1), (2, .int p2), (3, .ref oo)]) hx hb dL_clock_17 hl (by decide) rfl (fun ls hl => ?_)
      refine lv_iconst (v := 2) hx hb dL_clock_19 (by decide) ?_
      refine ret _ _ _ _ _ (hup hS1) dL_clock_20 ⟨by rw [hF9]; rfl, by rw [hF9]; exact hX1, by rw [hF9]; exact hat1⟩
  · have hF9 : (FL_clock σ x p1 p2) s.heap.size = .ok (v, τ) := hF
    have hat1 := hat.kept (hS1.2.1 oo hat.lt hAo)
    refine lv_i2l (v := v.toInt64) hx hb dL_clock_8 rfl ?_
    refine wx_last C hat1 dL_clock_9 (fun H2 locs2 g1 g2 g3 g4 => ?_)
    refine lv_goto (tgt := 21) hx hb dL_clock_10 (by decide) ?_
    refine lv_iconst (v := 0) hx hb dL_clock_21 (by decide) ?_
    exact ret _ _ _ _ _ (g4 (Or.inr rfl) (hup hS1)) dL_clock_22 ⟨by rw [hF9]; rfl, by rw [hF9]; exact (hX1.kept1 hAo g3), by rw [hF9]; exact g1⟩
def cd_cloud : Nat → Int32 := (fun k => if k = 3 then 1 else if k = 1 then 2 else if k = 2 then 3 else 0)
def FL_cloud (σ : XS) (x : Nat) (p1 : Int32) (p2 : Int32) : Nat → Except Nat (Int32 × XS) := (fun nq => f_X10_cloud σ x nq p1 p2)
set_option maxRecDepth 100000 in
theorem k_L_cloud (l : Launch) (D : va_G) (a : Nat → ClassId) (x e0 : Nat) (A : Nat → Prop) (hfl : l.stackTraces = false) (oo : Nat) (f : Nat → Int64) (σ : XS) (p1 : Int32) (p2 : Int32) (hok : ∀ nq, xk σ nq = 0 → of_X10_cloud σ x nq p1 p2) (her : ∀ nq k, (FL_cloud σ x p1 p2) nq = .error k → k = 3 ∨ k = 1 ∨ k = 2) : KH l yL_cloud cL_cloud 5 [(0, 10, 13, 21), (0, 10, 17, 13), (0, 10, 21, 15)] 9 179 4 314 [.ref x, .int p1, .int p2, .ref oo] (fun z => A z ∨ z = oo) (BH D a x e0 A oo f σ) (PH D a x e0 A oo cd_cloud cvI (FL_cloud σ x p1 p2) f σ) := by
  refine goH (D := D) (a := a) (by decide +kernel) (fun _ h => h.1.1.1) (Nat.le_of_ble_eq_true rfl) ?_
  intro p e s m args below meth c ls R Q hRf hRl hRc hRs C htab hB hl ret
  obtain ⟨⟨hE, hX⟩, hat, hAo, hNc⟩ := hB
  have hl : lv_has ls 5 [(0, .ref x), (1, .int p1), (2, .int p2), (3, .ref oo)] := hl
  have hx := C.1.1
  have hb := C.1.2.1
  have hts := C.1.2.2.2.2
  have hown := C.1.2.2.2.1
  have hup : ∀ {H : Heap} {locs : List Loc}, va_S A s.heap H locs → va_S (fun z => A z ∨ z = oo) s.heap H locs := fun h => va_S_up h (fun _ => Or.inl)
  refine lv_aload_n hx hb dL_cloud_0 rfl (lv_at hl 3 rfl) ?_
  refine lv_iconst (v := 0) hx hb dL_cloud_1 (by decide) ?_
  refine lv_aload_n hx hb dL_cloud_2 rfl (lv_at hl 0 rfl) ?_
  refine lv_iload_n hx hb dL_cloud_3 rfl (lv_at hl 1 rfl) ?_
  refine lv_iload_n hx hb dL_cloud_4 rfl (lv_at hl 2 rfl) ?_
  refine cc_HU (av := [.int p1, .int p2]) (rest := [.int 0, .ref oo]) C hE hX (k_X10_cloud l D a x e0 A hfl σ p1 p2 hok) cw_L_23 (okR_of hRf hRl (Nat.le_of_ble_eq_true rfl) (Nat.le_of_ble_eq_true rfl)) rfl rfl hl.1 (Nat.le_of_ble_eq_true rfl) (by rw [hRc]; exact Nat.le_refl _) (by rw [hRs]; exact Nat.le_refl _) dL_cloud_5 (fun k E ce q H1 locs1 hF hE1 hq hv hcl hz hkp hL => ?_) (fun v τ H1 locs1 hF hX1 hS1 => ?_)
  · have hX1 : XP D a x e0 A σ H1 := hX.ext hkp
    have hat1 := hat.kept (hkp oo hat.lt)
    have hS1 : va_S A s.heap H1 locs1 := ⟨hz, fun z h _ => hkp z h, hL⟩
    have hF9 : (FL_cloud σ x p1 p2) s.heap.size = .error k := hF
    rcases her _ _ hF9 with rfl | rfl | rfl
    · refine vx_catch (name := exN 3) (E := exN 3) hown [] ⟨0, 10, 13, 21⟩ [⟨0, 10, 17, 13⟩, ⟨0, 10, 21, 15⟩] (htab.trans rfl) (fun z hz9 => nomatch hz9) rfl (by decide) (hts _ q_442) (va_Nw.use rfl (hE.2.1 _ cbx_3)) hq hv (by rw [← hE1]; exact hcl) ?_
      refine lv_astore (lv' := (4, .ref q) :: [(0, .ref x), (1, .int p1), (2, .int p2), (3, .ref oo)]) hx hb dL_cloud_13 hl (by decide) rfl (fun ls hl => ?_)
      refine lv_iconst (v := 1) hx hb dL_cloud_15 (by decide) ?_
      refine ret _ _ _ _ _ (hup hS1) dL_cloud_16 ⟨by rw [hF9]; rfl, by rw [hF9]; exact hX1, by rw [hF9]; exact hat1⟩
    · refine vx_catch (name := exN 1) (E := exN 1) hown [⟨0, 10, 13, 21⟩] ⟨0, 10, 17, 13⟩ [⟨0, 10, 21, 15⟩] (htab.trans rfl) (fun z hz9 => by
        rcases List.mem_cons.mp hz9 with rfl | hz9
        · exact Or.inr ⟨by decide, exN 3, hts _ q_442, hNc (exN 1, exN 3) (by decide +kernel)⟩
        · exact nomatch hz9) rfl (by decide) (hts _ q_314) (va_Nw.use rfl (hE.2.1 _ cbx_1)) hq hv (by rw [← hE1]; exact hcl) ?_
      refine lv_astore (lv' := (4, .ref q) :: [(0, .ref x), (1, .int p1), (2, .int p2), (3, .ref oo)]) hx hb dL_cloud_17 hl (by decide) rfl (fun ls hl => ?_)
      refine lv_iconst (v := 2) hx hb dL_cloud_19 (by decide) ?_
      refine ret _ _ _ _ _ (hup hS1) dL_cloud_20 ⟨by rw [hF9]; rfl, by rw [hF9]; exact hX1, by rw [hF9]; exact hat1⟩
    · refine vx_catch (name := exN 2) (E := exN 2) hown [⟨0, 10, 13, 21⟩, ⟨0, 10, 17, 13⟩] ⟨0, 10, 21, 15⟩ [] (htab.trans rfl) (fun z hz9 => by
        rcases List.mem_cons.mp hz9 with rfl | hz9
        · exact Or.inr ⟨by decide, exN 3, hts _ q_442, hNc (exN 2, exN 3) (by decide +kernel)⟩
        rcases List.mem_cons.mp hz9 with rfl | hz9
        · exact Or.inr ⟨by decide, exN 1, hts _ q_314, hNc (exN 2, exN 1) (by decide +kernel)⟩
        · exact nomatch hz9) rfl (by decide) (hts _ q_315) (va_Nw.use rfl (hE.2.1 _ cbx_2)) hq hv (by rw [← hE1]; exact hcl) ?_
      refine lv_astore (lv' := (4, .ref q) :: [(0, .ref x), (1, .int p1), (2, .int p2), (3, .ref oo)]) hx hb dL_cloud_21 hl (by decide) rfl (fun ls hl => ?_)
      refine lv_iconst (v := 3) hx hb dL_cloud_23 (by decide) ?_
      refine ret _ _ _ _ _ (hup hS1) dL_cloud_24 ⟨by rw [hF9]; rfl, by rw [hF9]; exact hX1, by rw [hF9]; exact hat1⟩
  · have hF9 : (FL_cloud σ x p1 p2) s.heap.size = .ok (v, τ) := hF
    have hat1 := hat.kept (hS1.2.1 oo hat.lt hAo)
    refine lv_i2l (v := v.toInt64) hx hb dL_cloud_8 rfl ?_
    refine wx_last C hat1 dL_cloud_9 (fun H2 locs2 g1 g2 g3 g4 => ?_)
    refine lv_goto (tgt := 25) hx hb dL_cloud_10 (by decide) ?_
    refine lv_iconst (v := 0) hx hb dL_cloud_25 (by decide) ?_
    exact ret _ _ _ _ _ (g4 (Or.inr rfl) (hup hS1)) dL_cloud_26 ⟨by rw [hF9]; rfl, by rw [hF9]; exact (hX1.kept1 hAo g3), by rw [hF9]; exact g1⟩
def cd_cut : Nat → Int32 := (fun k => if k = 3 then 1 else if k = 1 then 2 else if k = 2 then 3 else 0)
def FL_cut (σ : XS) (x : Nat) (p1 : Int32) (p2 : Int32) (p3 : Int32) : Nat → Except Nat (Int32 × XS) := (fun nq => f_X10_cut σ x nq p1 p2 p3)
set_option maxRecDepth 100000 in
theorem k_L_cut (l : Launch) (D : va_G) (a : Nat → ClassId) (x e0 : Nat) (A : Nat → Prop) (hfl : l.stackTraces = false) (oo : Nat) (f : Nat → Int64) (σ : XS) (p1 : Int32) (p2 : Int32) (p3 : Int32) (hok : ∀ nq, xk σ nq = 0 → of_X10_cut σ x nq p1 p2 p3) (her : ∀ nq k, (FL_cut σ x p1 p2 p3) nq = .error k → k = 3 ∨ k = 1 ∨ k = 2) : KH l yL_cut cL_cut 6 [(0, 12, 15, 21), (0, 12, 19, 13), (0, 12, 23, 15)] 8 181 5 334 [.ref x, .int p1, .int p2, .int p3, .ref oo] (fun z => A z ∨ z = oo) (BH D a x e0 A oo f σ) (PH D a x e0 A oo cd_cut cvI (FL_cut σ x p1 p2 p3) f σ) := by
  refine goH (D := D) (a := a) (by decide +kernel) (fun _ h => h.1.1.1) (Nat.le_of_ble_eq_true rfl) ?_
  intro p e s m args below meth c ls R Q hRf hRl hRc hRs C htab hB hl ret
  obtain ⟨⟨hE, hX⟩, hat, hAo, hNc⟩ := hB
  have hl : lv_has ls 6 [(0, .ref x), (1, .int p1), (2, .int p2), (3, .int p3), (4, .ref oo)] := hl
  have hx := C.1.1
  have hb := C.1.2.1
  have hts := C.1.2.2.2.2
  have hown := C.1.2.2.2.1
  have hup : ∀ {H : Heap} {locs : List Loc}, va_S A s.heap H locs → va_S (fun z => A z ∨ z = oo) s.heap H locs := fun h => va_S_up h (fun _ => Or.inl)
  refine lv_aload hx hb dL_cut_0 (lv_at hl 4 rfl) ?_
  refine lv_iconst (v := 0) hx hb dL_cut_2 (by decide) ?_
  refine lv_aload_n hx hb dL_cut_3 rfl (lv_at hl 0 rfl) ?_
  refine lv_iload_n hx hb dL_cut_4 rfl (lv_at hl 1 rfl) ?_
  refine lv_iload_n hx hb dL_cut_5 rfl (lv_at hl 2 rfl) ?_
  refine lv_iload_n hx hb dL_cut_6 rfl (lv_at hl 3 rfl) ?_
  refine cc_HU (av := [.int p1, .int p2, .int p3]) (rest := [.int 0, .ref oo]) C hE hX (k_X10_cut l D a x e0 A hfl σ p1 p2 p3 hok) cw_L_88 (okR_of hRf hRl (Nat.le_of_ble_eq_true rfl) (Nat.le_of_ble_eq_true rfl)) rfl rfl hl.1 (Nat.le_of_ble_eq_true rfl) (by rw [hRc]; exact Nat.le_refl _) (by rw [hRs]; exact Nat.le_refl _) dL_cut_7 (fun k E ce q H1 locs1 hF hE1 hq hv hcl hz hkp hL => ?_) (fun v τ H1 locs1 hF hX1 hS1 => ?_)
  · have hX1 : XP D a x e0 A σ H1 := hX.ext hkp
    have hat1 := hat.kept (hkp oo hat.lt)
    have hS1 : va_S A s.heap H1 locs1 := ⟨hz, fun z h _ => hkp z h, hL⟩
    have hF9 : (FL_cut σ x p1 p2 p3) s.heap.size = .error k := hF
    rcases her _ _ hF9 with rfl | rfl | rfl
    · refine vx_catch (name := exN 3) (E := exN 3) hown [] ⟨0, 12, 15, 21⟩ [⟨0, 12, 19, 13⟩, ⟨0, 12, 23, 15⟩] (htab.trans rfl) (fun z hz9 => nomatch hz9) rfl (by decide) (hts _ q_442) (va_Nw.use rfl (hE.2.1 _ cbx_3)) hq hv (by rw [← hE1]; exact hcl) ?_
      refine lv_astore (lv' := (5, .ref q) :: [(0, .ref x), (1, .int p1), (2, .int p2), (3, .int p3), (4, .ref oo)]) hx hb dL_cut_15 hl (by decide) rfl (fun ls hl => ?_)
      refine lv_iconst (v := 1) hx hb dL_cut_17 (by decide) ?_
      refine ret _ _ _ _ _ (hup hS1) dL_cut_18 ⟨by rw [hF9]; rfl, by rw [hF9]; exact hX1, by rw [hF9]; exact hat1⟩
    · refine vx_catch (name := exN 1) (E := exN 1) hown [⟨0, 12, 15, 21⟩] ⟨0, 12, 19, 13⟩ [⟨0, 12, 23, 15⟩] (htab.trans rfl) (fun z hz9 => by
        rcases List.mem_cons.mp hz9 with rfl | hz9
        · exact Or.inr ⟨by decide, exN 3, hts _ q_442, hNc (exN 1, exN 3) (by decide +kernel)⟩
        · exact nomatch hz9) rfl (by decide) (hts _ q_314) (va_Nw.use rfl (hE.2.1 _ cbx_1)) hq hv (by rw [← hE1]; exact hcl) ?_
      refine lv_astore (lv' := (5, .ref q) :: [(0, .ref x), (1, .int p1), (2, .int p2), (3, .int p3), (4, .ref oo)]) hx hb dL_cut_19 hl (by decide) rfl (fun ls hl => ?_)
      refine lv_iconst (v := 2) hx hb dL_cut_21 (by decide) ?_
      refine ret _ _ _ _ _ (hup hS1) dL_cut_22 ⟨by rw [hF9]; rfl, by rw [hF9]; exact hX1, by rw [hF9]; exact hat1⟩
    · refine vx_catch (name := exN 2) (E := exN 2) hown [⟨0, 12, 15, 21⟩, ⟨0, 12, 19, 13⟩] ⟨0, 12, 23, 15⟩ [] (htab.trans rfl) (fun z hz9 => by
        rcases List.mem_cons.mp hz9 with rfl | hz9
        · exact Or.inr ⟨by decide, exN 3, hts _ q_442, hNc (exN 2, exN 3) (by decide +kernel)⟩
        rcases List.mem_cons.mp hz9 with rfl | hz9
        · exact Or.inr ⟨by decide, exN 1, hts _ q_314, hNc (exN 2, exN 1) (by decide +kernel)⟩
        · exact nomatch hz9) rfl (by decide) (hts _ q_315) (va_Nw.use rfl (hE.2.1 _ cbx_2)) hq hv (by rw [← hE1]; exact hcl) ?_
      refine lv_astore (lv' := (5, .ref q) :: [(0, .ref x), (1, .int p1), (2, .int p2), (3, .int p3), (4, .ref oo)]) hx hb dL_cut_23 hl (by decide) rfl (fun ls hl => ?_)
      refine lv_iconst (v := 3) hx hb dL_cut_25 (by decide) ?_
      refine ret _ _ _ _ _ (hup hS1) dL_cut_26 ⟨by rw [hF9]; rfl, by rw [hF9]; exact hX1, by rw [hF9]; exact hat1⟩
  · have hF9 : (FL_cut σ x p1 p2 p3) s.heap.size = .ok (v, τ) := hF
    have hat1 := hat.kept (hS1.2.1 oo hat.lt hAo)
    refine lv_i2l (v := v.toInt64) hx hb dL_cut_10 rfl ?_
    refine wx_last C hat1 dL_cut_11 (fun H2 locs2 g1 g2 g3 g4 => ?_)
    refine lv_goto (tgt := 27) hx hb dL_cut_12 (by decide) ?_
    refine lv_iconst (v := 0) hx hb dL_cut_27 (by decide) ?_
    exact ret _ _ _ _ _ (g4 (Or.inr rfl) (hup hS1)) dL_cut_28 ⟨by rw [hF9]; rfl, by rw [hF9]; exact (hX1.kept1 hAo g3), by rw [hF9]; exact g1⟩
def cd_doubt : Nat → Int32 := (fun k => if k = 3 then 1 else if k = 2 then 2 else 0)
def FL_doubt (σ : XS) (x : Nat) (p1 : Int32) (p2 : Int32) : Nat → Except Nat (Int32 × XS) := (fun _ => f_X10_doubt σ x p1 p2)
set_option maxRecDepth 100000 in
theorem k_L_doubt (l : Launch) (D : va_G) (a : Nat → ClassId) (x e0 : Nat) (A : Nat → Prop) (hfl : l.stackTraces = false) (oo : Nat) (f : Nat → Int64) (σ : XS) (p1 : Int32) (p2 : Int32) (hok : of_X10_doubt σ x p1 p2) (her : ∀ nq k, (FL_doubt σ x p1 p2) nq = .error k → k = 3 ∨ k = 2) : KH l yL_doubt cL_doubt 5 [(0, 17, 20, 21), (0, 17, 24, 15)] 8 137 2 12 [.ref x, .int p1, .int p2, .ref oo] (fun z => A z ∨ z = oo) (BH D a x e0 A oo f σ) (PH D a x e0 A oo cd_doubt cvZ (FL_doubt σ x p1 p2) f σ) := by
  refine goH (D := D) (a := a) (by decide +kernel) (fun _ h => h.1.1.1) (Nat.le_of_ble_eq_true rfl) ?_
  intro p e s m args below meth c ls R Q hRf hRl hRc hRs C htab hB hl ret
  obtain ⟨⟨hE, hX⟩, hat, hAo, hNc⟩ := hB
  have hl : lv_has ls 5 [(0, .ref x), (1, .int p1), (2, .int p2), (3, .ref oo)] := hl
  have hx := C.1.1
  have hb := C.1.2.1
  have hts := C.1.2.2.2.2
  have hown := C.1.2.2.2.1
  have hup : ∀ {H : Heap} {locs : List Loc}, va_S A s.heap H locs → va_S (fun z => A z ∨ z = oo) s.heap H locs := fun h => va_S_up h (fun _ => Or.inl)
  refine lv_aload_n hx hb dL_doubt_0 rfl (lv_at hl 3 rfl) ?_
  refine lv_iconst (v := 0) hx hb dL_doubt_1 (by decide) ?_
  refine lv_aload_n hx hb dL_doubt_2 rfl (lv_at hl 0 rfl) ?_
  refine lv_iload_n hx hb dL_doubt_3 rfl (lv_at hl 1 rfl) ?_
  refine lv_iload_n hx hb dL_doubt_4 rfl (lv_at hl 2 rfl) ?_
  refine cc_HU (av := [.int p1, .int p2]) (rest := [.int 0, .ref oo]) C hE hX (k_X10_doubt l D a x e0 A hfl σ p1 p2 hok) cw_L_108 (okR_of hRf hRl (Nat.le_of_ble_eq_true rfl) (Nat.le_of_ble_eq_true rfl)) rfl rfl hl.1 (Nat.le_of_ble_eq_true rfl) (by rw [hRc]; exact Nat.le_refl _) (by rw [hRs]; exact Nat.le_refl _) dL_doubt_5 (fun k E ce q H1 locs1 hF hE1 hq hv hcl hz hkp hL => ?_) (fun v τ H1 locs1 hF hX1 hS1 => ?_)
  · have hX1 : XP D a x e0 A σ H1 := hX.ext hkp
    have hat1 := hat.kept (hkp oo hat.lt)
    have hS1 : va_S A s.heap H1 locs1 := ⟨hz, fun z h _ => hkp z h, hL⟩
    have hF9 : (FL_doubt σ x p1 p2) s.heap.size = .error k := hF
    rcases her _ _ hF9 with rfl | rfl
    · refine vx_catch (name := exN 3) (E := exN 3) hown [] ⟨0, 17, 20, 21⟩ [⟨0, 17, 24, 15⟩] (htab.trans rfl) (fun z hz9 => nomatch hz9) rfl (by decide) (hts _ q_442) (va_Nw.use rfl (hE.2.1 _ cbx_3)) hq hv (by rw [← hE1]; exact hcl) ?_
      refine lv_astore (lv' := (4, .ref q) :: [(0, .ref x), (1, .int p1), (2, .int p2), (3, .ref oo)]) hx hb dL_doubt_20 hl (by decide) rfl (fun ls hl => ?_)
      refine lv_iconst (v := 1) hx hb dL_doubt_22 (by decide) ?_
      refine ret _ _ _ _ _ (hup hS1) dL_doubt_23 ⟨by rw [hF9]; rfl, by rw [hF9]; exact hX1, by rw [hF9]; exact hat1⟩
    · refine vx_catch (name := exN 2) (E := exN 2) hown [⟨0, 17, 20, 21⟩] ⟨0, 17, 24, 15⟩ [] (htab.trans rfl) (fun z hz9 => by
        rcases List.mem_cons.mp hz9 with rfl | hz9
        · exact Or.inr ⟨by decide, exN 3, hts _ q_442, hNc (exN 2, exN 3) (by decide +kernel)⟩
        · exact nomatch hz9) rfl (by decide) (hts _ q_315) (va_Nw.use rfl (hE.2.1 _ cbx_2)) hq hv (by rw [← hE1]; exact hcl) ?_
      refine lv_astore (lv' := (4, .ref q) :: [(0, .ref x), (1, .int p1), (2, .int p2), (3, .ref oo)]) hx hb dL_doubt_24 hl (by decide) rfl (fun ls hl => ?_)
      refine lv_iconst (v := 2) hx hb dL_doubt_26 (by decide) ?_
      refine ret _ _ _ _ _ (hup hS1) dL_doubt_27 ⟨by rw [hF9]; rfl, by rw [hF9]; exact hX1, by rw [hF9]; exact hat1⟩
  · have hF9 : (FL_doubt σ x p1 p2) s.heap.size = .ok (v, τ) := hF
    have hat1 := hat.kept (hS1.2.1 oo hat.lt hAo)
    refine lv_if_eq (tgt := 15) hx hb dL_doubt_8 (by decide) (fun c9 => ?_) (fun c9 => ?_)
    · refine lv_lconst (v := 0) hx hb dL_doubt_15 (by decide) ?_
      have hv9 : cvZ v f = va_up f 0 0 := by unfold cvZ; rw [if_pos c9]
      refine wx_last C hat1 dL_doubt_16 (fun H2 locs2 g1 g2 g3 g4 => ?_)
      rw [← hv9] at g1
      refine lv_goto (tgt := 28) hx hb dL_doubt_17 (by decide) ?_
      refine lv_iconst (v := 0) hx hb dL_doubt_28 (by decide) ?_
      exact ret _ _ _ _ _ (g4 (Or.inr rfl) (hup hS1)) dL_doubt_29 ⟨by rw [hF9]; rfl, by rw [hF9]; exact (hX1.kept1 hAo g3), by rw [hF9]; exact g1⟩
    · refine lv_lconst (v := 1) hx hb dL_doubt_11 (by decide) ?_
      refine lv_goto (tgt := 16) hx hb dL_doubt_12 (by decide) ?_
      have hv9 : cvZ v f = va_up f 0 1 := by unfold cvZ; rw [if_neg c9]
      refine wx_last C hat1 dL_doubt_16 (fun H2 locs2 g1 g2 g3 g4 => ?_)
      rw [← hv9] at g1
      refine lv_goto (tgt := 28) hx hb dL_doubt_17 (by decide) ?_
      refine lv_iconst (v := 0) hx hb dL_doubt_28 (by decide) ?_
      exact ret _ _ _ _ _ (g4 (Or.inr rfl) (hup hS1)) dL_doubt_29 ⟨by rw [hF9]; rfl, by rw [hF9]; exact (hX1.kept1 hAo g3), by rw [hF9]; exact g1⟩
def cd_end : Nat → Int32 := (fun k => if k = 1 then 1 else if k = 2 then 2 else 0)
def FL_end (σ : XS) (x : Nat) (p1 : Int32) (p2 : Int32) (p3 : Int32) (p4 : Int32) : Nat → Except Nat (Int32 × XS) := (fun _ => f_X10_end σ x p1 p2 p3 p4)
set_option maxRecDepth 100000 in
theorem k_L_end (l : Launch) (D : va_G) (a : Nat → ClassId) (x e0 : Nat) (A : Nat → Prop) (hfl : l.stackTraces = false) (oo : Nat) (f : Nat → Int64) (σ : XS) (p1 : Int32) (p2 : Int32) (p3 : Int32) (p4 : Int32) (hok : of_X10_end σ x p1 p2 p3 p4) (her : ∀ nq k, (FL_end σ x p1 p2 p3 p4) nq = .error k → k = 1 ∨ k = 2) : KH l yL_end cL_end 7 [(0, 14, 17, 13), (0, 14, 21, 15)] 9 181 7 336 [.ref x, .int p1, .int p2, .int p3, .int p4, .ref oo] (fun z => A z ∨ z = oo) (BH D a x e0 A oo f σ) (PH D a x e0 A oo cd_end cvI (FL_end σ x p1 p2 p3 p4) f σ) := by
  refine goH (D := D) (a := a) (by decide +kernel) (fun _ h => h.1.1.1) (Nat.le_of_ble_eq_true rfl) ?_
  intro p e s m args below meth c ls R Q hRf hRl hRc hRs C htab hB hl ret
  obtain ⟨⟨hE, hX⟩, hat, hAo, hNc⟩ := hB
  have hl : lv_has ls 7 [(0, .ref x), (1, .int p1), (2, .int p2), (3, .int p3), (4, .int p4), (5, .ref oo)] := hl
  have hx := C.1.1
  have hb := C.1.2.1
  have hts := C.1.2.2.2.2
  have hown := C.1.2.2.2.1
  have hup : ∀ {H : Heap} {locs : List Loc}, va_S A s.heap H locs → va_S (fun z => A z ∨ z = oo) s.heap H locs := fun h => va_S_up h (fun _ => Or.inl)
  refine lv_aload hx hb dL_end_0 (lv_at hl 5 rfl) ?_
  refine lv_iconst (v := 0) hx hb dL_end_2 (by decide) ?_
  refine lv_aload_n hx hb dL_end_3 rfl (lv_at hl 0 rfl) ?_
  refine lv_iload_n hx hb dL_end_4 rfl (lv_at hl 1 rfl) ?_
  refine lv_iload_n hx hb dL_end_5 rfl (lv_at hl 2 rfl) ?_
  refine lv_iload_n hx hb dL_end_6 rfl (lv_at hl 3 rfl) ?_
  refine lv_iload hx hb dL_end_7 (lv_at hl 4 rfl) ?_
  refine cc_HU (av := [.int p1, .int p2, .int p3, .int p4]) (rest := [.int 0, .ref oo]) C hE hX (k_X10_end l D a x e0 A hfl σ p1 p2 p3 p4 hok) cw_L_30 (okR_of hRf hRl (Nat.le_of_ble_eq_true rfl) (Nat.le_of_ble_eq_true rfl)) rfl rfl hl.1 (Nat.le_of_ble_eq_true rfl) (by rw [hRc]; exact Nat.le_refl _) (by rw [hRs]; exact Nat.le_refl _) dL_end_9 (fun k E ce q H1 locs1 hF hE1 hq hv hcl hz hkp hL => ?_) (fun v τ H1 locs1 hF hX1 hS1 => ?_)
  · have hX1 : XP D a x e0 A σ H1 := hX.ext hkp
    have hat1 := hat.kept (hkp oo hat.lt)
    have hS1 : va_S A s.heap H1 locs1 := ⟨hz, fun z h _ => hkp z h, hL⟩
    have hF9 : (FL_end σ x p1 p2 p3 p4) s.heap.size = .error k := hF
    rcases her _ _ hF9 with rfl | rfl
    · refine vx_catch (name := exN 1) (E := exN 1) hown [] ⟨0, 14, 17, 13⟩ [⟨0, 14, 21, 15⟩] (htab.trans rfl) (fun z hz9 => nomatch hz9) rfl (by decide) (hts _ q_314) (va_Nw.use rfl (hE.2.1 _ cbx_1)) hq hv (by rw [← hE1]; exact hcl) ?_
      refine lv_astore (lv' := (6, .ref q) :: [(0, .ref x), (1, .int p1), (2, .int p2), (3, .int p3), (4, .int p4), (5, .ref oo)]) hx hb dL_end_17 hl (by decide) rfl (fun ls hl => ?_)
      refine lv_iconst (v := 1) hx hb dL_end_19 (by decide) ?_
      refine ret _ _ _ _ _ (hup hS1) dL_end_20 ⟨by rw [hF9]; rfl, by rw [hF9]; exact hX1, by rw [hF9]; exact hat1⟩
    · refine vx_catch (name := exN 2) (E := exN 2) hown [⟨0, 14, 17, 13⟩] ⟨0, 14, 21, 15⟩ [] (htab.trans rfl) (fun z hz9 => by
        rcases List.mem_cons.mp hz9 with rfl | hz9
        · exact Or.inr ⟨by decide, exN 1, hts _ q_314, hNc (exN 2, exN 1) (by decide +kernel)⟩
        · exact nomatch hz9) rfl (by decide) (hts _ q_315) (va_Nw.use rfl (hE.2.1 _ cbx_2)) hq hv (by rw [← hE1]; exact hcl) ?_
      refine lv_astore (lv' := (6, .ref q) :: [(0, .ref x), (1, .int p1), (2, .int p2), (3, .int p3), (4, .int p4), (5, .ref oo)]) hx hb dL_end_21 hl (by decide) rfl (fun ls hl => ?_)
      refine lv_iconst (v := 2) hx hb dL_end_23 (by decide) ?_
      refine ret _ _ _ _ _ (hup hS1) dL_end_24 ⟨by rw [hF9]; rfl, by rw [hF9]; exact hX1, by rw [hF9]; exact hat1⟩
  · have hF9 : (FL_end σ x p1 p2 p3 p4) s.heap.size = .ok (v, τ) := hF
    have hat1 := hat.kept (hS1.2.1 oo hat.lt hAo)
    refine lv_i2l (v := v.toInt64) hx hb dL_end_12 rfl ?_
    refine wx_last C hat1 dL_end_13 (fun H2 locs2 g1 g2 g3 g4 => ?_)
    refine lv_goto (tgt := 25) hx hb dL_end_14 (by decide) ?_
    refine lv_iconst (v := 0) hx hb dL_end_25 (by decide) ?_
    exact ret _ _ _ _ _ (g4 (Or.inr rfl) (hup hS1)) dL_end_26 ⟨by rw [hF9]; rfl, by rw [hF9]; exact (hX1.kept1 hAo g3), by rw [hF9]; exact g1⟩
def cd_fall : Nat → Int32 := (fun k => if k = 3 then 1 else 0)
def FL_fall (σ : XS) (x : Nat) (p1 : Int32) : Nat → Except Nat (Int32 × XS) := (fun _ => f_X10_fall σ x p1)
set_option maxRecDepth 100000 in
theorem k_L_fall (l : Launch) (D : va_G) (a : Nat → ClassId) (x e0 : Nat) (A : Nat → Prop) (hfl : l.stackTraces = false) (oo : Nat) (f : Nat → Int64) (σ : XS) (p1 : Int32) (hok : of_X10_fall σ x p1) (her : ∀ nq k, (FL_fall σ x p1) nq = .error k → k = 3) : KH l yL_fall cL_fall 4 [(0, 9, 12, 21)] 8 194 1 6 [.ref x, .int p1, .ref oo] (fun z => A z ∨ z = oo) (BH D a x e0 A oo f σ) (PH D a x e0 A oo cd_fall cvI (FL_fall σ x p1) f σ) := by
  refine goH (D := D) (a := a) (by decide +kernel) (fun _ h => h.1.1.1) (Nat.le_of_ble_eq_true rfl) ?_
  intro p e s m args below meth c ls R Q hRf hRl hRc hRs C htab hB hl ret
  obtain ⟨⟨hE, hX⟩, hat, hAo, hNc⟩ := hB
  have hl : lv_has ls 4 [(0, .ref x), (1, .int p1), (2, .ref oo)] := hl
  have hx := C.1.1
  have hb := C.1.2.1
  have hts := C.1.2.2.2.2
  have hown := C.1.2.2.2.1
  have hup : ∀ {H : Heap} {locs : List Loc}, va_S A s.heap H locs → va_S (fun z => A z ∨ z = oo) s.heap H locs := fun h => va_S_up h (fun _ => Or.inl)
  refine lv_aload_n hx hb dL_fall_0 rfl (lv_at hl 2 rfl) ?_
  refine lv_iconst (v := 0) hx hb dL_fall_1 (by decide) ?_
  refine lv_aload_n hx hb dL_fall_2 rfl (lv_at hl 0 rfl) ?_
  refine lv_iload_n hx hb dL_fall_3 rfl (lv_at hl 1 rfl) ?_
  refine cc_HU (av := [.int p1]) (rest := [.int 0, .ref oo]) C hE hX (k_X10_fall l D a x e0 A hfl σ p1 hok) cw_L_71 (okR_of hRf hRl (Nat.le_of_ble_eq_true rfl) (Nat.le_of_ble_eq_true rfl)) rfl rfl hl.1 (Nat.le_of_ble_eq_true rfl) (by rw [hRc]; exact Nat.le_refl _) (by rw [hRs]; exact Nat.le_refl _) dL_fall_4 (fun k E ce q H1 locs1 hF hE1 hq hv hcl hz hkp hL => ?_) (fun v τ H1 locs1 hF hX1 hS1 => ?_)
  · have hX1 : XP D a x e0 A σ H1 := hX.ext hkp
    have hat1 := hat.kept (hkp oo hat.lt)
    have hS1 : va_S A s.heap H1 locs1 := ⟨hz, fun z h _ => hkp z h, hL⟩
    have hF9 : (FL_fall σ x p1) s.heap.size = .error k := hF
    have hk9 := her _ _ hF9
    subst hk9
    · refine vx_catch (name := exN 3) (E := exN 3) hown [] ⟨0, 9, 12, 21⟩ [] (htab.trans rfl) (fun z hz9 => nomatch hz9) rfl (by decide) (hts _ q_442) (va_Nw.use rfl (hE.2.1 _ cbx_3)) hq hv (by rw [← hE1]; exact hcl) ?_
      refine lv_astore_n (lv' := (3, .ref q) :: [(0, .ref x), (1, .int p1), (2, .ref oo)]) hx hb dL_fall_12 rfl hl (by decide) rfl (fun ls hl => ?_)
      refine lv_iconst (v := 1) hx hb dL_fall_13 (by decide) ?_
      refine ret _ _ _ _ _ (hup hS1) dL_fall_14 ⟨by rw [hF9]; rfl, by rw [hF9]; exact hX1, by rw [hF9]; exact hat1⟩
  · have hF9 : (FL_fall σ x p1) s.heap.size = .ok (v, τ) := hF
    have hat1 := hat.kept (hS1.2.1 oo hat.lt hAo)
    refine lv_i2l (v := v.toInt64) hx hb dL_fall_7 rfl ?_
    refine wx_last C hat1 dL_fall_8 (fun H2 locs2 g1 g2 g3 g4 => ?_)
    refine lv_goto (tgt := 15) hx hb dL_fall_9 (by decide) ?_
    refine lv_iconst (v := 0) hx hb dL_fall_15 (by decide) ?_
    exact ret _ _ _ _ _ (g4 (Or.inr rfl) (hup hS1)) dL_fall_16 ⟨by rw [hF9]; rfl, by rw [hF9]; exact (hX1.kept1 hAo g3), by rw [hF9]; exact g1⟩
def cd_find : Nat → Int32 := (fun k => if k = 1 then 1 else if k = 2 then 2 else 0)
def FL_find (σ : XS) (x : Nat) (p1 : Int32) (p2 : Int32) (p3 : Int32) (p4 : Int32) (p5 : Int32) : Nat → Except Nat (Int32 × XS) := (fun nq => f_X10_find σ x nq p1 p2 p3 p4 p5)
set_option maxRecDepth 100000 in
theorem k_L_find (l : Launch) (D : va_G) (a : Nat → ClassId) (x e0 : Nat) (A : Nat → Prop) (hfl : l.stackTraces = false) (oo : Nat) (f : Nat → Int64) (σ : XS) (p1 : Int32) (p2 : Int32) (p3 : Int32) (p4 : Int32) (p5 : Int32) (hok : ∀ nq, xk σ nq = 0 → of_X10_find σ x nq p1 p2 p3 p4 p5) (her : ∀ nq k, (FL_find σ x p1 p2 p3 p4 p5) nq = .error k → k = 1 ∨ k = 2) : KH l yL_find cL_find 8 [(0, 16, 19, 13), (0, 16, 23, 15)] 9 184 7 346 [.ref x, .int p1, .int p2, .int p3, .int p4, .int p5, .ref oo] (fun z => A z ∨ z = oo) (BH D a x e0 A oo f σ) (PH D a x e0 A oo cd_find cvI (FL_find σ x p1 p2 p3 p4 p5) f σ) := by
  refine goH (D := D) (a := a) (by decide +kernel) (fun _ h => h.1.1.1) (Nat.le_of_ble_eq_true rfl) ?_
  intro p e s m args below meth c ls R Q hRf hRl hRc hRs C htab hB hl ret
  obtain ⟨⟨hE, hX⟩, hat, hAo, hNc⟩ := hB
  have hl : lv_has ls 8 [(0, .ref x), (1, .int p1), (2, .int p2), (3, .int p3), (4, .int p4), (5, .int p5), (6, .ref oo)] := hl
  have hx := C.1.1
  have hb := C.1.2.1
  have hts := C.1.2.2.2.2
  have hown := C.1.2.2.2.1
  have hup : ∀ {H : Heap} {locs : List Loc}, va_S A s.heap H locs → va_S (fun z => A z ∨ z = oo) s.heap H locs := fun h => va_S_up h (fun _ => Or.inl)
  refine lv_aload hx hb dL_find_0 (lv_at hl 6 rfl) ?_
  refine lv_iconst (v := 0) hx hb dL_find_2 (by decide) ?_
  refine lv_aload_n hx hb dL_find_3 rfl (lv_at hl 0 rfl) ?_
  refine lv_iload_n hx hb dL_find_4 rfl (lv_at hl 1 rfl) ?_
  refine lv_iload_n hx hb dL_find_5 rfl (lv_at hl 2 rfl) ?_
  refine lv_iload_n hx hb dL_find_6 rfl (lv_at hl 3 rfl) ?_
  refine lv_iload hx hb dL_find_7 (lv_at hl 4 rfl) ?_
  refine lv_iload hx hb dL_find_9 (lv_at hl 5 rfl) ?_
  refine cc_HU (av := [.int p1, .int p2, .int p3, .int p4, .int p5]) (rest := [.int 0, .ref oo]) C hE hX (k_X10_find l D a x e0 A hfl σ p1 p2 p3 p4 p5 hok) cw_L_67 (okR_of hRf hRl (Nat.le_of_ble_eq_true rfl) (Nat.le_of_ble_eq_true rfl)) rfl rfl hl.1 (Nat.le_of_ble_eq_true rfl) (by rw [hRc]; exact Nat.le_refl _) (by rw [hRs]; exact Nat.le_refl _) dL_find_11 (fun k E ce q H1 locs1 hF hE1 hq hv hcl hz hkp hL => ?_) (fun v τ H1 locs1 hF hX1 hS1 => ?_)
  · have hX1 : XP D a x e0 A σ H1 := hX.ext hkp
    have hat1 := hat.kept (hkp oo hat.lt)
    have hS1 : va_S A s.heap H1 locs1 := ⟨hz, fun z h _ => hkp z h, hL⟩
    have hF9 : (FL_find σ x p1 p2 p3 p4 p5) s.heap.size = .error k := hF
    rcases her _ _ hF9 with rfl | rfl
    · refine vx_catch (name := exN 1) (E := exN 1) hown [] ⟨0, 16, 19, 13⟩ [⟨0, 16, 23, 15⟩] (htab.trans rfl) (fun z hz9 => nomatch hz9) rfl (by decide) (hts _ q_314) (va_Nw.use rfl (hE.2.1 _ cbx_1)) hq hv (by rw [← hE1]; exact hcl) ?_
      refine lv_astore (lv' := (7, .ref q) :: [(0, .ref x), (1, .int p1), (2, .int p2), (3, .int p3), (4, .int p4), (5, .int p5), (6, .ref oo)]) hx hb dL_find_19 hl (by decide) rfl (fun ls hl => ?_)
      refine lv_iconst (v := 1) hx hb dL_find_21 (by decide) ?_
      refine ret _ _ _ _ _ (hup hS1) dL_find_22 ⟨by rw [hF9]; rfl, by rw [hF9]; exact hX1, by rw [hF9]; exact hat1⟩
    · refine vx_catch (name := exN 2) (E := exN 2) hown [⟨0, 16, 19, 13⟩] ⟨0, 16, 23, 15⟩ [] (htab.trans rfl) (fun z hz9 => by
        rcases List.mem_cons.mp hz9 with rfl | hz9
        · exact Or.inr ⟨by decide, exN 1, hts _ q_314, hNc (exN 2, exN 1) (by decide +kernel)⟩
        · exact nomatch hz9) rfl (by decide) (hts _ q_315) (va_Nw.use rfl (hE.2.1 _ cbx_2)) hq hv (by rw [← hE1]; exact hcl) ?_
      refine lv_astore (lv' := (7, .ref q) :: [(0, .ref x), (1, .int p1), (2, .int p2), (3, .int p3), (4, .int p4), (5, .int p5), (6, .ref oo)]) hx hb dL_find_23 hl (by decide) rfl (fun ls hl => ?_)
      refine lv_iconst (v := 2) hx hb dL_find_25 (by decide) ?_
      refine ret _ _ _ _ _ (hup hS1) dL_find_26 ⟨by rw [hF9]; rfl, by rw [hF9]; exact hX1, by rw [hF9]; exact hat1⟩
  · have hF9 : (FL_find σ x p1 p2 p3 p4 p5) s.heap.size = .ok (v, τ) := hF
    have hat1 := hat.kept (hS1.2.1 oo hat.lt hAo)
    refine lv_i2l (v := v.toInt64) hx hb dL_find_14 rfl ?_
    refine wx_last C hat1 dL_find_15 (fun H2 locs2 g1 g2 g3 g4 => ?_)
    refine lv_goto (tgt := 27) hx hb dL_find_16 (by decide) ?_
    refine lv_iconst (v := 0) hx hb dL_find_27 (by decide) ?_
    exact ret _ _ _ _ _ (g4 (Or.inr rfl) (hup hS1)) dL_find_28 ⟨by rw [hF9]; rfl, by rw [hF9]; exact (hX1.kept1 hAo g3), by rw [hF9]; exact g1⟩
def cd_fireball : Nat → Int32 := (fun k => if k = 3 then 1 else 0)
def FL_fireball (σ : XS) (x : Nat) (p1 : Int32) : Nat → Except Nat (Int32 × XS) := (fun _ => exm σ (f_X10_fireball σ x p1))
set_option maxRecDepth 100000 in
theorem k_L_fireball (l : Launch) (D : va_G) (a : Nat → ClassId) (x e0 : Nat) (A : Nat → Prop) (hfl : l.stackTraces = false) (oo : Nat) (f : Nat → Int64) (σ : XS) (p1 : Int32) (hok : of_X10_fireball σ x p1) (her : ∀ nq k, (FL_fireball σ x p1) nq = .error k → k = 3) : KH l yL_fireball cL_fireball 4 [(0, 9, 12, 21)] 8 134 1 6 [.ref x, .int p1, .ref oo] (fun z => A z ∨ z = oo) (BH D a x e0 A oo f σ) (PH D a x e0 A oo cd_fireball cvI (FL_fireball σ x p1) f σ) := by
  refine goH (D := D) (a := a) (by decide +kernel) (fun _ h => h.1.1.1) (Nat.le_of_ble_eq_true rfl) ?_
  intro p e s m args below meth c ls R Q hRf hRl hRc hRs C htab hB hl ret
  obtain ⟨⟨hE, hX⟩, hat, hAo, hNc⟩ := hB
  have hl : lv_has ls 4 [(0, .ref x), (1, .int p1), (2, .ref oo)] := hl
  have hx := C.1.1
  have hb := C.1.2.1
  have hts := C.1.2.2.2.2
  have hown := C.1.2.2.2.1
  have hup : ∀ {H : Heap} {locs : List Loc}, va_S A s.heap H locs → va_S (fun z => A z ∨ z = oo) s.heap H locs := fun h => va_S_up h (fun _ => Or.inl)
  refine lv_aload_n hx hb dL_fireball_0 rfl (lv_at hl 2 rfl) ?_
  refine lv_iconst (v := 0) hx hb dL_fireball_1 (by decide) ?_
  refine lv_aload_n hx hb dL_fireball_2 rfl (lv_at hl 0 rfl) ?_
  refine lv_iload_n hx hb dL_fireball_3 rfl (lv_at hl 1 rfl) ?_
  refine cc_HT (av := [.int p1]) (rest := [.int 0, .ref oo]) C hE hX (k_X10_fireball l D a x e0 A hfl σ p1 hok) cw_L_34 (okR_of hRf hRl (Nat.le_of_ble_eq_true rfl) (Nat.le_of_ble_eq_true rfl)) rfl rfl hl.1 (Nat.le_of_ble_eq_true rfl) (by rw [hRc]; exact Nat.le_refl _) (by rw [hRs]; exact Nat.le_refl _) dL_fireball_4 (fun k E ce q H1 locs1 hF hE1 hq hv hcl hz hkp hL => ?_) (fun v τ H1 locs1 hF hX1 hS1 => ?_)
  · have hX1 : XP D a x e0 A σ H1 := hX.ext hkp
    have hat1 := hat.kept (hkp oo hat.lt)
    have hS1 : va_S A s.heap H1 locs1 := ⟨hz, fun z h _ => hkp z h, hL⟩
    have hF9 : (FL_fireball σ x p1) s.heap.size = .error k := hF
    have hk9 := her _ _ hF9
    subst hk9
    · refine vx_catch (name := exN 3) (E := exN 3) hown [] ⟨0, 9, 12, 21⟩ [] (htab.trans rfl) (fun z hz9 => nomatch hz9) rfl (by decide) (hts _ q_442) (va_Nw.use rfl (hE.2.1 _ cbx_3)) hq hv (by rw [← hE1]; exact hcl) ?_
      refine lv_astore_n (lv' := (3, .ref q) :: [(0, .ref x), (1, .int p1), (2, .ref oo)]) hx hb dL_fireball_12 rfl hl (by decide) rfl (fun ls hl => ?_)
      refine lv_iconst (v := 1) hx hb dL_fireball_13 (by decide) ?_
      refine ret _ _ _ _ _ (hup hS1) dL_fireball_14 ⟨by rw [hF9]; rfl, by rw [hF9]; exact hX1, by rw [hF9]; exact hat1⟩
  · have hF9 : (FL_fireball σ x p1) s.heap.size = .ok (v, τ) := hF
    have hat1 := hat.kept (hS1.2.1 oo hat.lt hAo)
    refine lv_i2l (v := v.toInt64) hx hb dL_fireball_7 rfl ?_
    refine wx_last C hat1 dL_fireball_8 (fun H2 locs2 g1 g2 g3 g4 => ?_)
    refine lv_goto (tgt := 15) hx hb dL_fireball_9 (by decide) ?_
    refine lv_iconst (v := 0) hx hb dL_fireball_15 (by decide) ?_
    exact ret _ _ _ _ _ (g4 (Or.inr rfl) (hup hS1)) dL_fireball_16 ⟨by rw [hF9]; rfl, by rw [hF9]; exact (hX1.kept1 hAo g3), by rw [hF9]; exact g1⟩
def cd_fireballAnew : Nat → Int32 := (fun k => if k = 3 then 1 else 0)
def FL_fireballAnew (σ : XS) (x : Nat) (p1 : Int32) : Nat → Except Nat (Int32 × XS) := (fun _ => f_X10_fireballAnew σ x p1)
set_option maxRecDepth 100000 in
theorem k_L_fireballAnew (l : Launch) (D : va_G) (a : Nat → ClassId) (x e0 : Nat) (A : Nat → Prop) (hfl : l.stackTraces = false) (oo : Nat) (f : Nat → Int64) (σ : XS) (p1 : Int32) (hok : of_X10_fireballAnew σ x p1) (her : ∀ nq k, (FL_fireballAnew σ x p1) nq = .error k → k = 3) : KH l yL_fireballAnew cL_fireballAnew 4 [(0, 9, 12, 21)] 8 137 1 6 [.ref x, .int p1, .ref oo] (fun z => A z ∨ z = oo) (BH D a x e0 A oo f σ) (PH D a x e0 A oo cd_fireballAnew cvI (FL_fireballAnew σ x p1) f σ) := by
  refine goH (D := D) (a := a) (by decide +kernel) (fun _ h => h.1.1.1) (Nat.le_of_ble_eq_true rfl) ?_
  intro p e s m args below meth c ls R Q hRf hRl hRc hRs C htab hB hl ret
  obtain ⟨⟨hE, hX⟩, hat, hAo, hNc⟩ := hB
  have hl : lv_has ls 4 [(0, .ref x), (1, .int p1), (2, .ref oo)] := hl
  have hx := C.1.1
  have hb := C.1.2.1
  have hts := C.1.2.2.2.2
  have hown := C.1.2.2.2.1
  have hup : ∀ {H : Heap} {locs : List Loc}, va_S A s.heap H locs → va_S (fun z => A z ∨ z = oo) s.heap H locs := fun h => va_S_up h (fun _ => Or.inl)
  refine lv_aload_n hx hb dL_fireballAnew_0 rfl (lv_at hl 2 rfl) ?_
  refine lv_iconst (v := 0) hx hb dL_fireballAnew_1 (by decide) ?_
  refine lv_aload_n hx hb dL_fireballAnew_2 rfl (lv_at hl 0 rfl) ?_
  refine lv_iload_n hx hb dL_fireballAnew_3 rfl (lv_at hl 1 rfl) ?_
  refine cc_HU (av := [.int p1]) (rest := [.int 0, .ref oo]) C hE hX (k_X10_fireballAnew l D a x e0 A hfl σ p1 hok) cw_L_38 (okR_of hRf hRl (Nat.le_of_ble_eq_true rfl) (Nat.le_of_ble_eq_true rfl)) rfl rfl hl.1 (Nat.le_of_ble_eq_true rfl) (by rw [hRc]; exact Nat.le_refl _) (by rw [hRs]; exact Nat.le_refl _) dL_fireballAnew_4 (fun k E ce q H1 locs1 hF hE1 hq hv hcl hz hkp hL => ?_) (fun v τ H1 locs1 hF hX1 hS1 => ?_)
  · have hX1 : XP D a x e0 A σ H1 := hX.ext hkp
    have hat1 := hat.kept (hkp oo hat.lt)
    have hS1 : va_S A s.heap H1 locs1 := ⟨hz, fun z h _ => hkp z h, hL⟩
    have hF9 : (FL_fireballAnew σ x p1) s.heap.size = .error k := hF
    have hk9 := her _ _ hF9
    subst hk9
    · refine vx_catch (name := exN 3) (E := exN 3) hown [] ⟨0, 9, 12, 21⟩ [] (htab.trans rfl) (fun z hz9 => nomatch hz9) rfl (by decide) (hts _ q_442) (va_Nw.use rfl (hE.2.1 _ cbx_3)) hq hv (by rw [← hE1]; exact hcl) ?_
      refine lv_astore_n (lv' := (3, .ref q) :: [(0, .ref x), (1, .int p1), (2, .ref oo)]) hx hb dL_fireballAnew_12 rfl hl (by decide) rfl (fun ls hl => ?_)
      refine lv_iconst (v := 1) hx hb dL_fireballAnew_13 (by decide) ?_
      refine ret _ _ _ _ _ (hup hS1) dL_fireballAnew_14 ⟨by rw [hF9]; rfl, by rw [hF9]; exact hX1, by rw [hF9]; exact hat1⟩
  · have hF9 : (FL_fireballAnew σ x p1) s.heap.size = .ok (v, τ) := hF
    have hat1 := hat.kept (hS1.2.1 oo hat.lt hAo)
    refine lv_i2l (v := v.toInt64) hx hb dL_fireballAnew_7 rfl ?_
    refine wx_last C hat1 dL_fireballAnew_8 (fun H2 locs2 g1 g2 g3 g4 => ?_)
    refine lv_goto (tgt := 15) hx hb dL_fireballAnew_9 (by decide) ?_
    refine lv_iconst (v := 0) hx hb dL_fireballAnew_15 (by decide) ?_
    exact ret _ _ _ _ _ (g4 (Or.inr rfl) (hup hS1)) dL_fireballAnew_16 ⟨by rw [hF9]; rfl, by rw [hF9]; exact (hX1.kept1 hAo g3), by rw [hF9]; exact g1⟩
def cd_fireballs : Nat → Int32 := (fun k => if k = 1 then 1 else 0)
def FL_fireballs (σ : XS) (x : Nat) (p1 : Int32) : Nat → Except Nat (Int32 × XS) := (fun _ => exm σ (f_X10_fireballs σ x p1))
set_option maxRecDepth 100000 in
theorem k_L_fireballs (l : Launch) (D : va_G) (a : Nat → ClassId) (x e0 : Nat) (A : Nat → Prop) (hfl : l.stackTraces = false) (oo : Nat) (f : Nat → Int64) (σ : XS) (p1 : Int32) (hok : of_X10_fireballs σ x p1) (her : ∀ nq k, (FL_fireballs σ x p1) nq = .error k → k = 1) : KH l yL_fireballs cL_fireballs 4 [(0, 9, 12, 13)] 9 155 1 6 [.ref x, .int p1, .ref oo] (fun z => A z ∨ z = oo) (BH D a x e0 A oo f σ) (PH D a x e0 A oo cd_fireballs cvI (FL_fireballs σ x p1) f σ) := by
  refine goH (D := D) (a := a) (by decide +kernel) (fun _ h => h.1.1.1) (Nat.le_of_ble_eq_true rfl) ?_
  intro p e s m args below meth c ls R Q hRf hRl hRc hRs C htab hB hl ret
  obtain ⟨⟨hE, hX⟩, hat, hAo, hNc⟩ := hB
  have hl : lv_has ls 4 [(0, .ref x), (1, .int p1), (2, .ref oo)] := hl
  have hx := C.1.1
  have hb := C.1.2.1
  have hts := C.1.2.2.2.2
  have hown := C.1.2.2.2.1
  have hup : ∀ {H : Heap} {locs : List Loc}, va_S A s.heap H locs → va_S (fun z => A z ∨ z = oo) s.heap H locs := fun h => va_S_up h (fun _ => Or.inl)
  refine lv_aload_n hx hb dL_fireballs_0 rfl (lv_at hl 2 rfl) ?_
  refine lv_iconst (v := 0) hx hb dL_fireballs_1 (by decide) ?_
  refine lv_aload_n hx hb dL_fireballs_2 rfl (lv_at hl 0 rfl) ?_
  refine lv_iload_n hx hb dL_fireballs_3 rfl (lv_at hl 1 rfl) ?_
  refine cc_HT (av := [.int p1]) (rest := [.int 0, .ref oo]) C hE hX (k_X10_fireballs l D a x e0 A hfl σ p1 hok) cw_L_41 (okR_of hRf hRl (Nat.le_of_ble_eq_true rfl) (Nat.le_of_ble_eq_true rfl)) rfl rfl hl.1 (Nat.le_of_ble_eq_true rfl) (by rw [hRc]; exact Nat.le_refl _) (by rw [hRs]; exact Nat.le_refl _) dL_fireballs_4 (fun k E ce q H1 locs1 hF hE1 hq hv hcl hz hkp hL => ?_) (fun v τ H1 locs1 hF hX1 hS1 => ?_)
  · have hX1 : XP D a x e0 A σ H1 := hX.ext hkp
    have hat1 := hat.kept (hkp oo hat.lt)
    have hS1 : va_S A s.heap H1 locs1 := ⟨hz, fun z h _ => hkp z h, hL⟩
    have hF9 : (FL_fireballs σ x p1) s.heap.size = .error k := hF
    have hk9 := her _ _ hF9
    subst hk9
    · refine vx_catch (name := exN 1) (E := exN 1) hown [] ⟨0, 9, 12, 13⟩ [] (htab.trans rfl) (fun z hz9 => nomatch hz9) rfl (by decide) (hts _ q_314) (va_Nw.use rfl (hE.2.1 _ cbx_1)) hq hv (by rw [← hE1]; exact hcl) ?_
      refine lv_astore_n (lv' := (3, .ref q) :: [(0, .ref x), (1, .int p1), (2, .ref oo)]) hx hb dL_fireballs_12 rfl hl (by decide) rfl (fun ls hl => ?_)
      refine lv_iconst (v := 1) hx hb dL_fireballs_13 (by decide) ?_
      refine ret _ _ _ _ _ (hup hS1) dL_fireballs_14 ⟨by rw [hF9]; rfl, by rw [hF9]; exact hX1, by rw [hF9]; exact hat1⟩
  · have hF9 : (FL_fireballs σ x p1) s.heap.size = .ok (v, τ) := hF
    have hat1 := hat.kept (hS1.2.1 oo hat.lt hAo)
    refine lv_i2l (v := v.toInt64) hx hb dL_fireballs_7 rfl ?_
    refine wx_last C hat1 dL_fireballs_8 (fun H2 locs2 g1 g2 g3 g4 => ?_)
    refine lv_goto (tgt := 15) hx hb dL_fireballs_9 (by decide) ?_
    refine lv_iconst (v := 0) hx hb dL_fireballs_15 (by decide) ?_
    exact ret _ _ _ _ _ (g4 (Or.inr rfl) (hup hS1)) dL_fireballs_16 ⟨by rw [hF9]; rfl, by rw [hF9]; exact (hX1.kept1 hAo g3), by rw [hF9]; exact g1⟩
def cd_flux : Nat → Int32 := (fun k => if k = 1 then 1 else 0)
def FL_flux (σ : XS) (x : Nat) (p1 : Int32) (p2 : Int32) (p3 : Int32) : Nat → Except Nat (Int32 × XS) := (fun _ => exm σ (f_X10_flux σ x p1 p2 p3))
set_option maxRecDepth 100000 in
theorem k_L_flux (l : Launch) (D : va_G) (a : Nat → ClassId) (x e0 : Nat) (A : Nat → Prop) (hfl : l.stackTraces = false) (oo : Nat) (f : Nat → Int64) (σ : XS) (p1 : Int32) (p2 : Int32) (p3 : Int32) (hok : of_X10_flux σ x p1 p2 p3) (her : ∀ nq k, (FL_flux σ x p1 p2 p3) nq = .error k → k = 1) : KH l yL_flux cL_flux 6 [(0, 12, 15, 13)] 9 159 3 18 [.ref x, .int p1, .int p2, .int p3, .ref oo] (fun z => A z ∨ z = oo) (BH D a x e0 A oo f σ) (PH D a x e0 A oo cd_flux cvI (FL_flux σ x p1 p2 p3) f σ) := by
  refine goH (D := D) (a := a) (by decide +kernel) (fun _ h => h.1.1.1) (Nat.le_of_ble_eq_true rfl) ?_
  intro p e s m args below meth c ls R Q hRf hRl hRc hRs C htab hB hl ret
  obtain ⟨⟨hE, hX⟩, hat, hAo, hNc⟩ := hB
  have hl : lv_has ls 6 [(0, .ref x), (1, .int p1), (2, .int p2), (3, .int p3), (4, .ref oo)] := hl
  have hx := C.1.1
  have hb := C.1.2.1
  have hts := C.1.2.2.2.2
  have hown := C.1.2.2.2.1
  have hup : ∀ {H : Heap} {locs : List Loc}, va_S A s.heap H locs → va_S (fun z => A z ∨ z = oo) s.heap H locs := fun h => va_S_up h (fun _ => Or.inl)
  refine lv_aload hx hb dL_flux_0 (lv_at hl 4 rfl) ?_
  refine lv_iconst (v := 0) hx hb dL_flux_2 (by decide) ?_
  refine lv_aload_n hx hb dL_flux_3 rfl (lv_at hl 0 rfl) ?_
  refine lv_iload_n hx hb dL_flux_4 rfl (lv_at hl 1 rfl) ?_
  refine lv_iload_n hx hb dL_flux_5 rfl (lv_at hl 2 rfl) ?_
  refine lv_iload_n hx hb dL_flux_6 rfl (lv_at hl 3 rfl) ?_
  refine cc_HT (av := [.int p1, .int p2, .int p3]) (rest := [.int 0, .ref oo]) C hE hX (k_X10_flux l D a x e0 A hfl σ p1 p2 p3 hok) cw_L_52 (okR_of hRf hRl (Nat.le_of_ble_eq_true rfl) (Nat.le_of_ble_eq_true rfl)) rfl rfl hl.1 (Nat.le_of_ble_eq_true rfl) (by rw [hRc]; exact Nat.le_refl _) (by rw [hRs]; exact Nat.le_refl _) dL_flux_7 (fun k E ce q H1 locs1 hF hE1 hq hv hcl hz hkp hL => ?_) (fun v τ H1 locs1 hF hX1 hS1 => ?_)
  · have hX1 : XP D a x e0 A σ H1 := hX.ext hkp
    have hat1 := hat.kept (hkp oo hat.lt)
    have hS1 : va_S A s.heap H1 locs1 := ⟨hz, fun z h _ => hkp z h, hL⟩
    have hF9 : (FL_flux σ x p1 p2 p3) s.heap.size = .error k := hF
    have hk9 := her _ _ hF9
    subst hk9
    · refine vx_catch (name := exN 1) (E := exN 1) hown [] ⟨0, 12, 15, 13⟩ [] (htab.trans rfl) (fun z hz9 => nomatch hz9) rfl (by decide) (hts _ q_314) (va_Nw.use rfl (hE.2.1 _ cbx_1)) hq hv (by rw [← hE1]; exact hcl) ?_
      refine lv_astore (lv' := (5, .ref q) :: [(0, .ref x), (1, .int p1), (2, .int p2), (3, .int p3), (4, .ref oo)]) hx hb dL_flux_15 hl (by decide) rfl (fun ls hl => ?_)
      refine lv_iconst (v := 1) hx hb dL_flux_17 (by decide) ?_
      refine ret _ _ _ _ _ (hup hS1) dL_flux_18 ⟨by rw [hF9]; rfl, by rw [hF9]; exact hX1, by rw [hF9]; exact hat1⟩
  · have hF9 : (FL_flux σ x p1 p2 p3) s.heap.size = .ok (v, τ) := hF
    have hat1 := hat.kept (hS1.2.1 oo hat.lt hAo)
    refine lv_i2l (v := v.toInt64) hx hb dL_flux_10 rfl ?_
    refine wx_last C hat1 dL_flux_11 (fun H2 locs2 g1 g2 g3 g4 => ?_)
    refine lv_goto (tgt := 19) hx hb dL_flux_12 (by decide) ?_
    refine lv_iconst (v := 0) hx hb dL_flux_19 (by decide) ?_
    exact ret _ _ _ _ _ (g4 (Or.inr rfl) (hup hS1)) dL_flux_20 ⟨by rw [hF9]; rfl, by rw [hF9]; exact (hX1.kept1 hAo g3), by rw [hF9]; exact g1⟩
def cd_give : Nat → Int32 := (fun k => if k = 3 then 1 else if k = 1 then 2 else if k = 2 then 3 else 0)
def FL_give (σ : XS) (x : Nat) (p1 : Int32) (p2 : Int32) : Nat → Except Nat (Int32 × XS) := (fun _ => f_X10_give σ x p1 p2)
set_option maxRecDepth 100000 in
theorem k_L_give (l : Launch) (D : va_G) (a : Nat → ClassId) (x e0 : Nat) (A : Nat → Prop) (hfl : l.stackTraces = false) (oo : Nat) (f : Nat → Int64) (σ : XS) (p1 : Int32) (p2 : Int32) (hok : of_X10_give σ x p1 p2) (her : ∀ nq k, (FL_give σ x p1 p2) nq = .error k → k = 3 ∨ k = 1 ∨ k = 2) : KH l yL_give cL_give 5 [(0, 10, 13, 21), (0, 10, 17, 13), (0, 10, 21, 15)] 8 139 3 18 [.ref x, .int p1, .int p2, .ref oo] (fun z => A z ∨ z = oo) (BH D a x e0 A oo f σ) (PH D a x e0 A oo cd_give cvI (FL_give σ x p1 p2) f σ) := by
  refine goH (D := D) (a := a) (by decide +kernel) (fun _ h => h.1.1.1) (Nat.le_of_ble_eq_true rfl) ?_
  intro p e s m args below meth c ls R Q hRf hRl hRc hRs C htab hB hl ret
  obtain ⟨⟨hE, hX⟩, hat, hAo, hNc⟩ := hB
  have hl : lv_has ls 5 [(0, .ref x), (1, .int p1), (2, .int p2), (3, .ref oo)] := hl
  have hx := C.1.1
  have hb := C.1.2.1
  have hts := C.1.2.2.2.2
  have hown := C.1.2.2.2.1
  have hup : ∀ {H : Heap} {locs : List Loc}, va_S A s.heap H locs → va_S (fun z => A z ∨ z = oo) s.heap H locs := fun h => va_S_up h (fun _ => Or.inl)
  refine lv_aload_n hx hb dL_give_0 rfl (lv_at hl 3 rfl) ?_
  refine lv_iconst (v := 0) hx hb dL_give_1 (by decide) ?_
  refine lv_aload_n hx hb dL_give_2 rfl (lv_at hl 0 rfl) ?_
  refine lv_iload_n hx hb dL_give_3 rfl (lv_at hl 1 rfl) ?_
  refine lv_iload_n hx hb dL_give_4 rfl (lv_at hl 2 rfl) ?_
  refine cc_HU (av := [.int p1, .int p2]) (rest := [.int 0, .ref oo]) C hE hX (k_X10_give l D a x e0 A hfl σ p1 p2 hok) cw_L_102 (okR_of hRf hRl (Nat.le_of_ble_eq_true rfl) (Nat.le_of_ble_eq_true rfl)) rfl rfl hl.1 (Nat.le_of_ble_eq_true rfl) (by rw [hRc]; exact Nat.le_refl _) (by rw [hRs]; exact Nat.le_refl _) dL_give_5 (fun k E ce q H1 locs1 hF hE1 hq hv hcl hz hkp hL => ?_) (fun v τ H1 locs1 hF hX1 hS1 => ?_)
  · have hX1 : XP D a x e0 A σ H1 := hX.ext hkp
    have hat1 := hat.kept (hkp oo hat.lt)
    have hS1 : va_S A s.heap H1 locs1 := ⟨hz, fun z h _ => hkp z h, hL⟩
    have hF9 : (FL_give σ x p1 p2) s.heap.size = .error k := hF
    rcases her _ _ hF9 with rfl | rfl | rfl
    · refine vx_catch (name := exN 3) (E := exN 3) hown [] ⟨0, 10, 13, 21⟩ [⟨0, 10, 17, 13⟩, ⟨0, 10, 21, 15⟩] (htab.trans rfl) (fun z hz9 => nomatch hz9) rfl (by decide) (hts _ q_442) (va_Nw.use rfl (hE.2.1 _ cbx_3)) hq hv (by rw [← hE1]; exact hcl) ?_
      refine lv_astore (lv' := (4, .ref q) :: [(0, .ref x), (1, .int p1), (2, .int p2), (3, .ref oo)]) hx hb dL_give_13 hl (by decide) rfl (fun ls hl => ?_)
      refine lv_iconst (v := 1) hx hb dL_give_15 (by decide) ?_
      refine ret _ _ _ _ _ (hup hS1) dL_give_16 ⟨by rw [hF9]; rfl, by rw [hF9]; exact hX1, by rw [hF9]; exact hat1⟩
    · refine vx_catch (name := exN 1) (E := exN 1) hown [⟨0, 10, 13, 21⟩] ⟨0, 10, 17, 13⟩ [⟨0, 10, 21, 15⟩] (htab.trans rfl) (fun z hz9 => by
        rcases List.mem_cons.mp hz9 with rfl | hz9
        · exact Or.inr ⟨by decide, exN 3, hts _ q_442, hNc (exN 1, exN 3) (by decide +kernel)⟩
        · exact nomatch hz9) rfl (by decide) (hts _ q_314) (va_Nw.use rfl (hE.2.1 _ cbx_1)) hq hv (by rw [← hE1]; exact hcl) ?_
      refine lv_astore (lv' := (4, .ref q) :: [(0, .ref x), (1, .int p1), (2, .int p2), (3, .ref oo)]) hx hb dL_give_17 hl (by decide) rfl (fun ls hl => ?_)
      refine lv_iconst (v := 2) hx hb dL_give_19 (by decide) ?_
      refine ret _ _ _ _ _ (hup hS1) dL_give_20 ⟨by rw [hF9]; rfl, by rw [hF9]; exact hX1, by rw [hF9]; exact hat1⟩
    · refine vx_catch (name := exN 2) (E := exN 2) hown [⟨0, 10, 13, 21⟩, ⟨0, 10, 17, 13⟩] ⟨0, 10, 21, 15⟩ [] (htab.trans rfl) (fun z hz9 => by
        rcases List.mem_cons.mp hz9 with rfl | hz9
        · exact Or.inr ⟨by decide, exN 3, hts _ q_442, hNc (exN 2, exN 3) (by decide +kernel)⟩
        rcases List.mem_cons.mp hz9 with rfl | hz9
        · exact Or.inr ⟨by decide, exN 1, hts _ q_314, hNc (exN 2, exN 1) (by decide +kernel)⟩
        · exact nomatch hz9) rfl (by decide) (hts _ q_315) (va_Nw.use rfl (hE.2.1 _ cbx_2)) hq hv (by rw [← hE1]; exact hcl) ?_
      refine lv_astore (lv' := (4, .ref q) :: [(0, .ref x), (1, .int p1), (2, .int p2), (3, .ref oo)]) hx hb dL_give_21 hl (by decide) rfl (fun ls hl => ?_)
      refine lv_iconst (v := 3) hx hb dL_give_23 (by decide) ?_
      refine ret _ _ _ _ _ (hup hS1) dL_give_24 ⟨by rw [hF9]; rfl, by rw [hF9]; exact hX1, by rw [hF9]; exact hat1⟩
  · have hF9 : (FL_give σ x p1 p2) s.heap.size = .ok (v, τ) := hF
    have hat1 := hat.kept (hS1.2.1 oo hat.lt hAo)
    refine lv_i2l (v := v.toInt64) hx hb dL_give_8 rfl ?_
    refine wx_last C hat1 dL_give_9 (fun H2 locs2 g1 g2 g3 g4 => ?_)
    refine lv_goto (tgt := 25) hx hb dL_give_10 (by decide) ?_
    refine lv_iconst (v := 0) hx hb dL_give_25 (by decide) ?_
    exact ret _ _ _ _ _ (g4 (Or.inr rfl) (hup hS1)) dL_give_26 ⟨by rw [hF9]; rfl, by rw [hF9]; exact (hX1.kept1 hAo g3), by rw [hF9]; exact g1⟩
def cd_law : Nat → Int32 := (fun k => if k = 1 then 1 else 0)
def FL_law (σ : XS) (x : Nat) (p1 : Int32) (p2 : Int32) : Nat → Except Nat (Int32 × XS) := (fun _ => f_X10_law σ x p1 p2)
set_option maxRecDepth 100000 in
theorem k_L_law (l : Launch) (D : va_G) (a : Nat → ClassId) (x e0 : Nat) (A : Nat → Prop) (hfl : l.stackTraces = false) (oo : Nat) (f : Nat → Int64) (σ : XS) (p1 : Int32) (p2 : Int32) (hok : of_X10_law σ x p1 p2) (her : ∀ nq k, (FL_law σ x p1 p2) nq = .error k → k = 1) : KH l yL_law cL_law 5 [(0, 10, 13, 13)] 8 137 2 12 [.ref x, .int p1, .int p2, .ref oo] (fun z => A z ∨ z = oo) (BH D a x e0 A oo f σ) (PH D a x e0 A oo cd_law cvI (FL_law σ x p1 p2) f σ) := by
  refine goH (D := D) (a := a) (by decide +kernel) (fun _ h => h.1.1.1) (Nat.le_of_ble_eq_true rfl) ?_
  intro p e s m args below meth c ls R Q hRf hRl hRc hRs C htab hB hl ret
  obtain ⟨⟨hE, hX⟩, hat, hAo, hNc⟩ := hB
  have hl : lv_has ls 5 [(0, .ref x), (1, .int p1), (2, .int p2), (3, .ref oo)] := hl
  have hx := C.1.1
  have hb := C.1.2.1
  have hts := C.1.2.2.2.2
  have hown := C.1.2.2.2.1
  have hup : ∀ {H : Heap} {locs : List Loc}, va_S A s.heap H locs → va_S (fun z => A z ∨ z = oo) s.heap H locs := fun h => va_S_up h (fun _ => Or.inl)
  refine lv_aload_n hx hb dL_law_0 rfl (lv_at hl 3 rfl) ?_
  refine lv_iconst (v := 0) hx hb dL_law_1 (by decide) ?_
  refine lv_aload_n hx hb dL_law_2 rfl (lv_at hl 0 rfl) ?_
  refine lv_iload_n hx hb dL_law_3 rfl (lv_at hl 1 rfl) ?_
  refine lv_iload_n hx hb dL_law_4 rfl (lv_at hl 2 rfl) ?_
  refine cc_HU (av := [.int p1, .int p2]) (rest := [.int 0, .ref oo]) C hE hX (k_X10_law l D a x e0 A hfl σ p1 p2 hok) cw_L_99 (okR_of hRf hRl (Nat.le_of_ble_eq_true rfl) (Nat.le_of_ble_eq_true rfl)) rfl rfl hl.1 (Nat.le_of_ble_eq_true rfl) (by rw [hRc]; exact Nat.le_refl _) (by rw [hRs]; exact Nat.le_refl _) dL_law_5 (fun k E ce q H1 locs1 hF hE1 hq hv hcl hz hkp hL => ?_) (fun v τ H1 locs1 hF hX1 hS1 => ?_)
  · have hX1 : XP D a x e0 A σ H1 := hX.ext hkp
    have hat1 := hat.kept (hkp oo hat.lt)
    have hS1 : va_S A s.heap H1 locs1 := ⟨hz, fun z h _ => hkp z h, hL⟩
    have hF9 : (FL_law σ x p1 p2) s.heap.size = .error k := hF
    have hk9 := her _ _ hF9
    subst hk9
    · refine vx_catch (name := exN 1) (E := exN 1) hown [] ⟨0, 10, 13, 13⟩ [] (htab.trans rfl) (fun z hz9 => nomatch hz9) rfl (by decide) (hts _ q_314) (va_Nw.use rfl (hE.2.1 _ cbx_1)) hq hv (by rw [← hE1]; exact hcl) ?_
      refine lv_astore (lv' := (4, .ref q) :: [(0, .ref x), (1, .int p1), (2, .int p2), (3, .ref oo)]) hx hb dL_law_13 hl (by decide) rfl (fun ls hl => ?_)
      refine lv_iconst (v := 1) hx hb dL_law_15 (by decide) ?_
      refine ret _ _ _ _ _ (hup hS1) dL_law_16 ⟨by rw [hF9]; rfl, by rw [hF9]; exact hX1, by rw [hF9]; exact hat1⟩
  · have hF9 : (FL_law σ x p1 p2) s.heap.size = .ok (v, τ) := hF
    have hat1 := hat.kept (hS1.2.1 oo hat.lt hAo)
    refine lv_i2l (v := v.toInt64) hx hb dL_law_8 rfl ?_
    refine wx_last C hat1 dL_law_9 (fun H2 locs2 g1 g2 g3 g4 => ?_)
    refine lv_goto (tgt := 17) hx hb dL_law_10 (by decide) ?_
    refine lv_iconst (v := 0) hx hb dL_law_17 (by decide) ?_
    exact ret _ _ _ _ _ (g4 (Or.inr rfl) (hup hS1)) dL_law_18 ⟨by rw [hF9]; rfl, by rw [hF9]; exact (hX1.kept1 hAo g3), by rw [hF9]; exact g1⟩
def cd_lend : Nat → Int32 := (fun k => if k = 3 then 1 else if k = 1 then 2 else if k = 2 then 3 else 0)
def FL_lend (σ : XS) (x : Nat) (p1 : Int32) (p2 : Int32) : Nat → Except Nat (Unit × XS) := (fun _ => f_X10_lend σ x p1 p2)
set_option maxRecDepth 100000 in
theorem k_L_lend (l : Launch) (D : va_G) (a : Nat → ClassId) (x e0 : Nat) (A : Nat → Prop) (hfl : l.stackTraces = false) (oo : Nat) (f : Nat → Int64) (σ : XS) (p1 : Int32) (p2 : Int32) (hok : of_X10_lend σ x p1 p2) (her : ∀ nq k, (FL_lend σ x p1 p2) nq = .error k → k = 3 ∨ k = 1 ∨ k = 2) : KH l yL_lend cL_lend 4 [(0, 6, 9, 21), (0, 6, 12, 13), (0, 6, 15, 15)] 8 139 3 18 [.ref x, .int p1, .int p2] (fun z => A z ∨ z = oo) (BH D a x e0 A oo f σ) (PH D a x e0 A oo cd_lend cvV (FL_lend σ x p1 p2) f σ) := by
  refine goH (D := D) (a := a) (by decide +kernel) (fun _ h => h.1.1.1) (Nat.le_of_ble_eq_true rfl) ?_
  intro p e s m args below meth c ls R Q hRf hRl hRc hRs C htab hB hl ret
  obtain ⟨⟨hE, hX⟩, hat, hAo, hNc⟩ := hB
  have hl : lv_has ls 4 [(0, .ref x), (1, .int p1), (2, .int p2)] := hl
  have hx := C.1.1
  have hb := C.1.2.1
  have hts := C.1.2.2.2.2
  have hown := C.1.2.2.2.1
  have hup : ∀ {H : Heap} {locs : List Loc}, va_S A s.heap H locs → va_S (fun z => A z ∨ z = oo) s.heap H locs := fun h => va_S_up h (fun _ => Or.inl)
  refine lv_aload_n hx hb dL_lend_0 rfl (lv_at hl 0 rfl) ?_
  refine lv_iload_n hx hb dL_lend_1 rfl (lv_at hl 1 rfl) ?_
  refine lv_iload_n hx hb dL_lend_2 rfl (lv_at hl 2 rfl) ?_
  refine cc_HU (av := [.int p1, .int p2]) (rest := []) C hE hX (k_X10_lend l D a x e0 A hfl σ p1 p2 hok) cw_L_91 (okR_of hRf hRl (Nat.le_of_ble_eq_true rfl) (Nat.le_of_ble_eq_true rfl)) rfl rfl hl.1 (Nat.le_of_ble_eq_true rfl) (by rw [hRc]; exact Nat.le_refl _) (by rw [hRs]; exact Nat.le_refl _) dL_lend_3 (fun k E ce q H1 locs1 hF hE1 hq hv hcl hz hkp hL => ?_) (fun v τ H1 locs1 hF hX1 hS1 => ?_)
  · have hX1 : XP D a x e0 A σ H1 := hX.ext hkp
    have hat1 := hat.kept (hkp oo hat.lt)
    have hS1 : va_S A s.heap H1 locs1 := ⟨hz, fun z h _ => hkp z h, hL⟩
    have hF9 : (FL_lend σ x p1 p2) s.heap.size = .error k := hF
    rcases her _ _ hF9 with rfl | rfl | rfl
    · refine vx_catch (name := exN 3) (E := exN 3) hown [] ⟨0, 6, 9, 21⟩ [⟨0, 6, 12, 13⟩, ⟨0, 6, 15, 15⟩] (htab.trans rfl) (fun z hz9 => nomatch hz9) rfl (by decide) (hts _ q_442) (va_Nw.use rfl (hE.2.1 _ cbx_3)) hq hv (by rw [← hE1]; exact hcl) ?_
      refine lv_astore_n (lv' := (3, .ref q) :: [(0, .ref x), (1, .int p1), (2, .int p2)]) hx hb dL_lend_9 rfl hl (by decide) rfl (fun ls hl => ?_)
      refine lv_iconst (v := 1) hx hb dL_lend_10 (by decide) ?_
      refine ret _ _ _ _ _ (hup hS1) dL_lend_11 ⟨by rw [hF9]; rfl, by rw [hF9]; exact hX1, by rw [hF9]; exact hat1⟩
    · refine vx_catch (name := exN 1) (E := exN 1) hown [⟨0, 6, 9, 21⟩] ⟨0, 6, 12, 13⟩ [⟨0, 6, 15, 15⟩] (htab.trans rfl) (fun z hz9 => by
        rcases List.mem_cons.mp hz9 with rfl | hz9
        · exact Or.inr ⟨by decide, exN 3, hts _ q_442, hNc (exN 1, exN 3) (by decide +kernel)⟩
        · exact nomatch hz9) rfl (by decide) (hts _ q_314) (va_Nw.use rfl (hE.2.1 _ cbx_1)) hq hv (by rw [← hE1]; exact hcl) ?_
      refine lv_astore_n (lv' := (3, .ref q) :: [(0, .ref x), (1, .int p1), (2, .int p2)]) hx hb dL_lend_12 rfl hl (by decide) rfl (fun ls hl => ?_)
      refine lv_iconst (v := 2) hx hb dL_lend_13 (by decide) ?_
      refine ret _ _ _ _ _ (hup hS1) dL_lend_14 ⟨by rw [hF9]; rfl, by rw [hF9]; exact hX1, by rw [hF9]; exact hat1⟩
    · refine vx_catch (name := exN 2) (E := exN 2) hown [⟨0, 6, 9, 21⟩, ⟨0, 6, 12, 13⟩] ⟨0, 6, 15, 15⟩ [] (htab.trans rfl) (fun z hz9 => by
        rcases List.mem_cons.mp hz9 with rfl | hz9
        · exact Or.inr ⟨by decide, exN 3, hts _ q_442, hNc (exN 2, exN 3) (by decide +kernel)⟩
        rcases List.mem_cons.mp hz9 with rfl | hz9
        · exact Or.inr ⟨by decide, exN 1, hts _ q_314, hNc (exN 2, exN 1) (by decide +kernel)⟩
        · exact nomatch hz9) rfl (by decide) (hts _ q_315) (va_Nw.use rfl (hE.2.1 _ cbx_2)) hq hv (by rw [← hE1]; exact hcl) ?_
      refine lv_astore_n (lv' := (3, .ref q) :: [(0, .ref x), (1, .int p1), (2, .int p2)]) hx hb dL_lend_15 rfl hl (by decide) rfl (fun ls hl => ?_)
      refine lv_iconst (v := 3) hx hb dL_lend_16 (by decide) ?_
      refine ret _ _ _ _ _ (hup hS1) dL_lend_17 ⟨by rw [hF9]; rfl, by rw [hF9]; exact hX1, by rw [hF9]; exact hat1⟩
  · have hF9 : (FL_lend σ x p1 p2) s.heap.size = .ok (v, τ) := hF
    have hat1 := hat.kept (hS1.2.1 oo hat.lt hAo)
    refine lv_goto (tgt := 18) hx hb dL_lend_6 (by decide) ?_
    refine lv_iconst (v := 0) hx hb dL_lend_18 (by decide) ?_
    exact ret _ _ _ _ _ (hup hS1) dL_lend_19 ⟨by rw [hF9]; rfl, by rw [hF9]; exact hX1, by rw [hF9]; exact hat1⟩
def cd_minerals : Nat → Int32 := (fun k => if k = 3 then 1 else if k = 1 then 2 else 0)
def FL_minerals (σ : XS) (x : Nat) (p1 : Int32) (p2 : Int32) (p3 : Int32) (p4 : Int32) : Nat → Except Nat (Unit × XS) := (fun _ => f_X10_minerals σ x p1 p2 p3 p4)
set_option maxRecDepth 100000 in
theorem k_L_minerals (l : Launch) (D : va_G) (a : Nat → ClassId) (x e0 : Nat) (A : Nat → Prop) (hfl : l.stackTraces = false) (oo : Nat) (f : Nat → Int64) (σ : XS) (p1 : Int32) (p2 : Int32) (p3 : Int32) (p4 : Int32) (hok : of_X10_minerals σ x p1 p2 p3 p4) (her : ∀ nq k, (FL_minerals σ x p1 p2 p3 p4) nq = .error k → k = 3 ∨ k = 1) : KH l yL_minerals cL_minerals 6 [(0, 9, 12, 21), (0, 9, 16, 13)] 8 139 4 24 [.ref x, .int p1, .int p2, .int p3, .int p4] (fun z => A z ∨ z = oo) (BH D a x e0 A oo f σ) (PH D a x e0 A oo cd_minerals cvV (FL_minerals σ x p1 p2 p3 p4) f σ) := by
  refine goH (D := D) (a := a) (by decide +kernel) (fun _ h => h.1.1.1) (Nat.le_of_ble_eq_true rfl) ?_
  intro p e s m args below meth c ls R Q hRf hRl hRc hRs C htab hB hl ret
  obtain ⟨⟨hE, hX⟩, hat, hAo, hNc⟩ := hB
  have hl : lv_has ls 6 [(0, .ref x), (1, .int p1), (2, .int p2), (3, .int p3), (4, .int p4)] := hl
  have hx := C.1.1
  have hb := C.1.2.1
  have hts := C.1.2.2.2.2
  have hown := C.1.2.2.2.1
  have hup : ∀ {H : Heap} {locs : List Loc}, va_S A s.heap H locs → va_S (fun z => A z ∨ z = oo) s.heap H locs := fun h => va_S_up h (fun _ => Or.inl)
  refine lv_aload_n hx hb dL_minerals_0 rfl (lv_at hl 0 rfl) ?_
  refine lv_iload_n hx hb dL_minerals_1 rfl (lv_at hl 1 rfl) ?_
  refine lv_iload_n hx hb dL_minerals_2 rfl (lv_at hl 2 rfl) ?_
  refine lv_iload_n hx hb dL_minerals_3 rfl (lv_at hl 3 rfl) ?_
  refine lv_iload hx hb dL_minerals_4 (lv_at hl 4 rfl) ?_
  refine cc_HU (av := [.int p1, .int p2, .int p3, .int p4]) (rest := []) C hE hX (k_X10_minerals l D a x e0 A hfl σ p1 p2 p3 p4 hok) cw_L_74 (okR_of hRf hRl (Nat.le_of_ble_eq_true rfl) (Nat.le_of_ble_eq_true rfl)) rfl rfl hl.1 (Nat.le_of_ble_eq_true rfl) (by rw [hRc]; exact Nat.le_refl _) (by rw [hRs]; exact Nat.le_refl _) dL_minerals_6 (fun k E ce q H1 locs1 hF hE1 hq hv hcl hz hkp hL => ?_) (fun v τ H1 locs1 hF hX1 hS1 => ?_)
  · have hX1 : XP D a x e0 A σ H1 := hX.ext hkp
    have hat1 := hat.kept (hkp oo hat.lt)
    have hS1 : va_S A s.heap H1 locs1 := ⟨hz, fun z h _ => hkp z h, hL⟩
    have hF9 : (FL_minerals σ x p1 p2 p3 p4) s.heap.size = .error k := hF
    rcases her _ _ hF9 with rfl | rfl
    · refine vx_catch (name := exN 3) (E := exN 3) hown [] ⟨0, 9, 12, 21⟩ [⟨0, 9, 16, 13⟩] (htab.trans rfl) (fun z hz9 => nomatch hz9) rfl (by decide) (hts _ q_442) (va_Nw.use rfl (hE.2.1 _ cbx_3)) hq hv (by rw [← hE1]; exact hcl) ?_
      refine lv_astore (lv' := (5, .ref q) :: [(0, .ref x), (1, .int p1), (2, .int p2), (3, .int p3), (4, .int p4)]) hx hb dL_minerals_12 hl (by decide) rfl (fun ls hl => ?_)
      refine lv_iconst (v := 1) hx hb dL_minerals_14 (by decide) ?_
      refine ret _ _ _ _ _ (hup hS1) dL_minerals_15 ⟨by rw [hF9]; rfl, by rw [hF9]; exact hX1, by rw [hF9]; exact hat1⟩
    · refine vx_catch (name := exN 1) (E := exN 1) hown [⟨0, 9, 12, 21⟩] ⟨0, 9, 16, 13⟩ [] (htab.trans rfl) (fun z hz9 => by
        rcases List.mem_cons.mp hz9 with rfl | hz9
        · exact Or.inr ⟨by decide, exN 3, hts _ q_442, hNc (exN 1, exN 3) (by decide +kernel)⟩
        · exact nomatch hz9) rfl (by decide) (hts _ q_314) (va_Nw.use rfl (hE.2.1 _ cbx_1)) hq hv (by rw [← hE1]; exact hcl) ?_
      refine lv_astore (lv' := (5, .ref q) :: [(0, .ref x), (1, .int p1), (2, .int p2), (3, .int p3), (4, .int p4)]) hx hb dL_minerals_16 hl (by decide) rfl (fun ls hl => ?_)
      refine lv_iconst (v := 2) hx hb dL_minerals_18 (by decide) ?_
      refine ret _ _ _ _ _ (hup hS1) dL_minerals_19 ⟨by rw [hF9]; rfl, by rw [hF9]; exact hX1, by rw [hF9]; exact hat1⟩
  · have hF9 : (FL_minerals σ x p1 p2 p3 p4) s.heap.size = .ok (v, τ) := hF
    have hat1 := hat.kept (hS1.2.1 oo hat.lt hAo)
    refine lv_goto (tgt := 20) hx hb dL_minerals_9 (by decide) ?_
    refine lv_iconst (v := 0) hx hb dL_minerals_20 (by decide) ?_
    exact ret _ _ _ _ _ (hup hS1) dL_minerals_21 ⟨by rw [hF9]; rfl, by rw [hF9]; exact hX1, by rw [hF9]; exact hat1⟩
def cd_name : Nat → Int32 := (fun k => if k = 3 then 1 else if k = 1 then 2 else if k = 2 then 3 else 0)
def FL_name (σ : XS) (x : Nat) (p1 : Int32) (p2 : Int32) : Nat → Except Nat (Int32 × XS) := (fun _ => f_X10_name σ x p1 p2)
set_option maxRecDepth 100000 in
theorem k_L_name (l : Launch) (D : va_G) (a : Nat → ClassId) (x e0 : Nat) (A : Nat → Prop) (hfl : l.stackTraces = false) (oo : Nat) (f : Nat → Int64) (σ : XS) (p1 : Int32) (p2 : Int32) (hok : of_X10_name σ x p1 p2) (her : ∀ nq k, (FL_name σ x p1 p2) nq = .error k → k = 3 ∨ k = 1 ∨ k = 2) : KH l yL_name cL_name 5 [(0, 10, 13, 21), (0, 10, 17, 13), (0, 10, 21, 15)] 8 137 3 18 [.ref x, .int p1, .int p2, .ref oo] (fun z => A z ∨ z = oo) (BH D a x e0 A oo f σ) (PH D a x e0 A oo cd_name cvI (FL_name σ x p1 p2) f σ) := by
  refine goH (D := D) (a := a) (by decide +kernel) (fun _ h => h.1.1.1) (Nat.le_of_ble_eq_true rfl) ?_
  intro p e s m args below meth c ls R Q hRf hRl hRc hRs C htab hB hl ret
  obtain ⟨⟨hE, hX⟩, hat, hAo, hNc⟩ := hB
  have hl : lv_has ls 5 [(0, .ref x), (1, .int p1), (2, .int p2), (3, .ref oo)] := hl
  have hx := C.1.1
  have hb := C.1.2.1
  have hts := C.1.2.2.2.2
  have hown := C.1.2.2.2.1
  have hup : ∀ {H : Heap} {locs : List Loc}, va_S A s.heap H locs → va_S (fun z => A z ∨ z = oo) s.heap H locs := fun h => va_S_up h (fun _ => Or.inl)
  refine lv_aload_n hx hb dL_name_0 rfl (lv_at hl 3 rfl) ?_
  refine lv_iconst (v := 0) hx hb dL_name_1 (by decide) ?_
  refine lv_aload_n hx hb dL_name_2 rfl (lv_at hl 0 rfl) ?_
  refine lv_iload_n hx hb dL_name_3 rfl (lv_at hl 1 rfl) ?_
  refine lv_iload_n hx hb dL_name_4 rfl (lv_at hl 2 rfl) ?_
  refine cc_HU (av := [.int p1, .int p2]) (rest := [.int 0, .ref oo]) C hE hX (k_X10_name l D a x e0 A hfl σ p1 p2 hok) cw_L_105 (okR_of hRf hRl (Nat.le_of_ble_eq_true rfl) (Nat.le_of_ble_eq_true rfl)) rfl rfl hl.1 (Nat.le_of_ble_eq_true rfl) (by rw [hRc]; exact Nat.le_refl _) (by rw [hRs]; exact Nat.le_refl _) dL_name_5 (fun k E ce q H1 locs1 hF hE1 hq hv hcl hz hkp hL => ?_) (fun v τ H1 locs1 hF hX1 hS1 => ?_)
  · have hX1 : XP D a x e0 A σ H1 := hX.ext hkp
    have hat1 := hat.kept (hkp oo hat.lt)
    have hS1 : va_S A s.heap H1 locs1 := ⟨hz, fun z h _ => hkp z h, hL⟩
    have hF9 : (FL_name σ x p1 p2) s.heap.size = .error k := hF
    rcases her _ _ hF9 with rfl | rfl | rfl
    · refine vx_catch (name := exN 3) (E := exN 3) hown [] ⟨0, 10, 13, 21⟩ [⟨0, 10, 17, 13⟩, ⟨0, 10, 21, 15⟩] (htab.trans rfl) (fun z hz9 => nomatch hz9) rfl (by decide) (hts _ q_442) (va_Nw.use rfl (hE.2.1 _ cbx_3)) hq hv (by rw [← hE1]; exact hcl) ?_
      refine lv_astore (lv' := (4, .ref q) :: [(0, .ref x), (1, .int p1), (2, .int p2), (3, .ref oo)]) hx hb dL_name_13 hl (by decide) rfl (fun ls hl => ?_)
      refine lv_iconst (v := 1) hx hb dL_name_15 (by decide) ?_
      refine ret _ _ _ _ _ (hup hS1) dL_name_16 ⟨by rw [hF9]; rfl, by rw [hF9]; exact hX1, by rw [hF9]; exact hat1⟩
    · refine vx_catch (name := exN 1) (E := exN 1) hown [⟨0, 10, 13, 21⟩] ⟨0, 10, 17, 13⟩ [⟨0, 10, 21, 15⟩] (htab.trans rfl) (fun z hz9 => by
        rcases List.mem_cons.mp hz9 with rfl | hz9
        · exact Or.inr ⟨by decide, exN 3, hts _ q_442, hNc (exN 1, exN 3) (by decide +kernel)⟩
        · exact nomatch hz9) rfl (by decide) (hts _ q_314) (va_Nw.use rfl (hE.2.1 _ cbx_1)) hq hv (by rw [← hE1]; exact hcl) ?_
      refine lv_astore (lv' := (4, .ref q) :: [(0, .ref x), (1, .int p1), (2, .int p2), (3, .ref oo)]) hx hb dL_name_17 hl (by decide) rfl (fun ls hl => ?_)
      refine lv_iconst (v := 2) hx hb dL_name_19 (by decide) ?_
      refine ret _ _ _ _ _ (hup hS1) dL_name_20 ⟨by rw [hF9]; rfl, by rw [hF9]; exact hX1, by rw [hF9]; exact hat1⟩
    · refine vx_catch (name := exN 2) (E := exN 2) hown [⟨0, 10, 13, 21⟩, ⟨0, 10, 17, 13⟩] ⟨0, 10, 21, 15⟩ [] (htab.trans rfl) (fun z hz9 => by
        rcases List.mem_cons.mp hz9 with rfl | hz9
        · exact Or.inr ⟨by decide, exN 3, hts _ q_442, hNc (exN 2, exN 3) (by decide +kernel)⟩
        rcases List.mem_cons.mp hz9 with rfl | hz9
        · exact Or.inr ⟨by decide, exN 1, hts _ q_314, hNc (exN 2, exN 1) (by decide +kernel)⟩
        · exact nomatch hz9) rfl (by decide) (hts _ q_315) (va_Nw.use rfl (hE.2.1 _ cbx_2)) hq hv (by rw [← hE1]; exact hcl) ?_
      refine lv_astore (lv' := (4, .ref q) :: [(0, .ref x), (1, .int p1), (2, .int p2), (3, .ref oo)]) hx hb dL_name_21 hl (by decide) rfl (fun ls hl => ?_)
      refine lv_iconst (v := 3) hx hb dL_name_23 (by decide) ?_
      refine ret _ _ _ _ _ (hup hS1) dL_name_24 ⟨by rw [hF9]; rfl, by rw [hF9]; exact hX1, by rw [hF9]; exact hat1⟩
  · have hF9 : (FL_name σ x p1 p2) s.heap.size = .ok (v, τ) := hF
    have hat1 := hat.kept (hS1.2.1 oo hat.lt hAo)
    refine lv_i2l (v := v.toInt64) hx hb dL_name_8 rfl ?_
    refine wx_last C hat1 dL_name_9 (fun H2 locs2 g1 g2 g3 g4 => ?_)
    refine lv_goto (tgt := 25) hx hb dL_name_10 (by decide) ?_
    refine lv_iconst (v := 0) hx hb dL_name_25 (by decide) ?_
    exact ret _ _ _ _ _ (g4 (Or.inr rfl) (hup hS1)) dL_name_26 ⟨by rw [hF9]; rfl, by rw [hF9]; exact (hX1.kept1 hAo g3), by rw [hF9]; exact g1⟩
def cd_pair : Nat → Int32 := (fun k => if k = 3 then 1 else if k = 1 then 2 else 0)
def FL_pair (σ : XS) (x : Nat) (p1 : Int32) (p2 : Int32) (p3 : Int32) : Nat → Except Nat (Int32 × XS) := (fun _ => f_X10_pair σ x p1 p2 p3)
set_option maxRecDepth 100000 in
theorem k_L_pair (l : Launch) (D : va_G) (a : Nat → ClassId) (x e0 : Nat) (A : Nat → Prop) (hfl : l.stackTraces = false) (oo : Nat) (f : Nat → Int64) (σ : XS) (p1 : Int32) (p2 : Int32) (p3 : Int32) (hok : of_X10_pair σ x p1 p2 p3) (her : ∀ nq k, (FL_pair σ x p1 p2 p3) nq = .error k → k = 3 ∨ k = 1) : KH l yL_pair cL_pair 6 [(0, 19, 22, 21), (0, 19, 26, 13)] 8 201 4 24 [.ref x, .int p1, .int p2, .int p3, .ref oo] (fun z => A z ∨ z = oo) (BH D a x e0 A oo f σ) (PH D a x e0 A oo cd_pair cvZ (FL_pair σ x p1 p2 p3) f σ) := by
  refine goH (D := D) (a := a) (by decide +kernel) (fun _ h => h.1.1.1) (Nat.le_of_ble_eq_true rfl) ?_
  intro p e s m args below meth c ls R Q hRf hRl hRc hRs C htab hB hl ret
  obtain ⟨⟨hE, hX⟩, hat, hAo, hNc⟩ := hB
  have hl : lv_has ls 6 [(0, .ref x), (1, .int p1), (2, .int p2), (3, .int p3), (4, .ref oo)] := hl
  have hx := C.1.1
  have hb := C.1.2.1
  have hts := C.1.2.2.2.2
  have hown := C.1.2.2.2.1
  have hup : ∀ {H : Heap} {locs : List Loc}, va_S A s.heap H locs → va_S (fun z => A z ∨ z = oo) s.heap H locs := fun h => va_S_up h (fun _ => Or.inl)
  refine lv_aload hx hb dL_pair_0 (lv_at hl 4 rfl) ?_
  refine lv_iconst (v := 0) hx hb dL_pair_2 (by decide) ?_
  refine lv_aload_n hx hb dL_pair_3 rfl (lv_at hl 0 rfl) ?_
  refine lv_iload_n hx hb dL_pair_4 rfl (lv_at hl 1 rfl) ?_
  refine lv_iload_n hx hb dL_pair_5 rfl (lv_at hl 2 rfl) ?_
  refine lv_iload_n hx hb dL_pair_6 rfl (lv_at hl 3 rfl) ?_
  refine cc_HU (av := [.int p1, .int p2, .int p3]) (rest := [.int 0, .ref oo]) C hE hX (k_X10_pair l D a x e0 A hfl σ p1 p2 p3 hok) cw_L_84 (okR_of hRf hRl (Nat.le_of_ble_eq_true rfl) (Nat.le_of_ble_eq_true rfl)) rfl rfl hl.1 (Nat.le_of_ble_eq_true rfl) (by rw [hRc]; exact Nat.le_refl _) (by rw [hRs]; exact Nat.le_refl _) dL_pair_7 (fun k E ce q H1 locs1 hF hE1 hq hv hcl hz hkp hL => ?_) (fun v τ H1 locs1 hF hX1 hS1 => ?_)
  · have hX1 : XP D a x e0 A σ H1 := hX.ext hkp
    have hat1 := hat.kept (hkp oo hat.lt)
    have hS1 : va_S A s.heap H1 locs1 := ⟨hz, fun z h _ => hkp z h, hL⟩
    have hF9 : (FL_pair σ x p1 p2 p3) s.heap.size = .error k := hF
    rcases her _ _ hF9 with rfl | rfl
    · refine vx_catch (name := exN 3) (E := exN 3) hown [] ⟨0, 19, 22, 21⟩ [⟨0, 19, 26, 13⟩] (htab.trans rfl) (fun z hz9 => nomatch hz9) rfl (by decide) (hts _ q_442) (va_Nw.use rfl (hE.2.1 _ cbx_3)) hq hv (by rw [← hE1]; exact hcl) ?_
      refine lv_astore (lv' := (5, .ref q) :: [(0, .ref x), (1, .int p1), (2, .int p2), (3, .int p3), (4, .ref oo)]) hx hb dL_pair_22 hl (by decide) rfl (fun ls hl => ?_)
      refine lv_iconst (v := 1) hx hb dL_pair_24 (by decide) ?_
      refine ret _ _ _ _ _ (hup hS1) dL_pair_25 ⟨by rw [hF9]; rfl, by rw [hF9]; exact hX1, by rw [hF9]; exact hat1⟩
    · refine vx_catch (name := exN 1) (E := exN 1) hown [⟨0, 19, 22, 21⟩] ⟨0, 19, 26, 13⟩ [] (htab.trans rfl) (fun z hz9 => by
        rcases List.mem_cons.mp hz9 with rfl | hz9
        · exact Or.inr ⟨by decide, exN 3, hts _ q_442, hNc (exN 1, exN 3) (by decide +kernel)⟩
        · exact nomatch hz9) rfl (by decide) (hts _ q_314) (va_Nw.use rfl (hE.2.1 _ cbx_1)) hq hv (by rw [← hE1]; exact hcl) ?_
      refine lv_astore (lv' := (5, .ref q) :: [(0, .ref x), (1, .int p1), (2, .int p2), (3, .int p3), (4, .ref oo)]) hx hb dL_pair_26 hl (by decide) rfl (fun ls hl => ?_)
      refine lv_iconst (v := 2) hx hb dL_pair_28 (by decide) ?_
      refine ret _ _ _ _ _ (hup hS1) dL_pair_29 ⟨by rw [hF9]; rfl, by rw [hF9]; exact hX1, by rw [hF9]; exact hat1⟩
  · have hF9 : (FL_pair σ x p1 p2 p3) s.heap.size = .ok (v, τ) := hF
    have hat1 := hat.kept (hS1.2.1 oo hat.lt hAo)
    refine lv_if_eq (tgt := 17) hx hb dL_pair_10 (by decide) (fun c9 => ?_) (fun c9 => ?_)
    · refine lv_lconst (v := 0) hx hb dL_pair_17 (by decide) ?_
      have hv9 : cvZ v f = va_up f 0 0 := by unfold cvZ; rw [if_pos c9]
      refine wx_last C hat1 dL_pair_18 (fun H2 locs2 g1 g2 g3 g4 => ?_)
      rw [← hv9] at g1
      refine lv_goto (tgt := 30) hx hb dL_pair_19 (by decide) ?_
      refine lv_iconst (v := 0) hx hb dL_pair_30 (by decide) ?_
      exact ret _ _ _ _ _ (g4 (Or.inr rfl) (hup hS1)) dL_pair_31 ⟨by rw [hF9]; rfl, by rw [hF9]; exact (hX1.kept1 hAo g3), by rw [hF9]; exact g1⟩
    · refine lv_lconst (v := 1) hx hb dL_pair_13 (by decide) ?_
      refine lv_goto (tgt := 18) hx hb dL_pair_14 (by decide) ?_
      have hv9 : cvZ v f = va_up f 0 1 := by unfold cvZ; rw [if_neg c9]
      refine wx_last C hat1 dL_pair_18 (fun H2 locs2 g1 g2 g3 g4 => ?_)
      rw [← hv9] at g1
      refine lv_goto (tgt := 30) hx hb dL_pair_19 (by decide) ?_
      refine lv_iconst (v := 0) hx hb dL_pair_30 (by decide) ?_
      exact ret _ _ _ _ _ (g4 (Or.inr rfl) (hup hS1)) dL_pair_31 ⟨by rw [hF9]; rfl, by rw [hF9]; exact (hX1.kept1 hAo g3), by rw [hF9]; exact g1⟩
def cd_rule : Nat → Int32 := (fun k => if k = 1 then 1 else 0)
def FL_rule (σ : XS) (x : Nat) (p1 : Int32) (p2 : Int32) (p3 : Int32) : Nat → Except Nat (Unit × XS) := (fun nq => f_X10_rule σ x nq p1 p2 p3)
set_option maxRecDepth 100000 in
theorem k_L_rule (l : Launch) (D : va_G) (a : Nat → ClassId) (x e0 : Nat) (A : Nat → Prop) (hfl : l.stackTraces = false) (oo : Nat) (f : Nat → Int64) (σ : XS) (p1 : Int32) (p2 : Int32) (p3 : Int32) (hok : ∀ nq, xk σ nq = 0 → of_X10_rule σ x nq p1 p2 p3) (her : ∀ nq k, (FL_rule σ x p1 p2 p3) nq = .error k → k = 1) : KH l yL_rule cL_rule 5 [(0, 7, 10, 13)] 8 137 4 20 [.ref x, .int p1, .int p2, .int p3] (fun z => A z ∨ z = oo) (BH D a x e0 A oo f σ) (PH D a x e0 A oo cd_rule cvV (FL_rule σ x p1 p2 p3) f σ) := by
  refine goH (D := D) (a := a) (by decide +kernel) (fun _ h => h.1.1.1) (Nat.le_of_ble_eq_true rfl) ?_
  intro p e s m args below meth c ls R Q hRf hRl hRc hRs C htab hB hl ret
  obtain ⟨⟨hE, hX⟩, hat, hAo, hNc⟩ := hB
  have hl : lv_has ls 5 [(0, .ref x), (1, .int p1), (2, .int p2), (3, .int p3)] := hl
  have hx := C.1.1
  have hb := C.1.2.1
  have hts := C.1.2.2.2.2
  have hown := C.1.2.2.2.1
  have hup : ∀ {H : Heap} {locs : List Loc}, va_S A s.heap H locs → va_S (fun z => A z ∨ z = oo) s.heap H locs := fun h => va_S_up h (fun _ => Or.inl)
  refine lv_aload_n hx hb dL_rule_0 rfl (lv_at hl 0 rfl) ?_
  refine lv_iload_n hx hb dL_rule_1 rfl (lv_at hl 1 rfl) ?_
  refine lv_iload_n hx hb dL_rule_2 rfl (lv_at hl 2 rfl) ?_
  refine lv_iload_n hx hb dL_rule_3 rfl (lv_at hl 3 rfl) ?_
  refine cc_HU (av := [.int p1, .int p2, .int p3]) (rest := []) C hE hX (k_X10_rule l D a x e0 A hfl σ p1 p2 p3 hok) cw_L_78 (okR_of hRf hRl (Nat.le_of_ble_eq_true rfl) (Nat.le_of_ble_eq_true rfl)) rfl rfl hl.1 (Nat.le_of_ble_eq_true rfl) (by rw [hRc]; exact Nat.le_refl _) (by rw [hRs]; exact Nat.le_refl _) dL_rule_4 (fun k E ce q H1 locs1 hF hE1 hq hv hcl hz hkp hL => ?_) (fun v τ H1 locs1 hF hX1 hS1 => ?_)
  · have hX1 : XP D a x e0 A σ H1 := hX.ext hkp
    have hat1 := hat.kept (hkp oo hat.lt)
    have hS1 : va_S A s.heap H1 locs1 := ⟨hz, fun z h _ => hkp z h, hL⟩
    have hF9 : (FL_rule σ x p1 p2 p3) s.heap.size = .error k := hF
    have hk9 := her _ _ hF9
    subst hk9
    · refine vx_catch (name := exN 1) (E := exN 1) hown [] ⟨0, 7, 10, 13⟩ [] (htab.trans rfl) (fun z hz9 => nomatch hz9) rfl (by decide) (hts _ q_314) (va_Nw.use rfl (hE.2.1 _ cbx_1)) hq hv (by rw [← hE1]; exact hcl) ?_
      refine lv_astore (lv' := (4, .ref q) :: [(0, .ref x), (1, .int p1), (2, .int p2), (3, .int p3)]) hx hb dL_rule_10 hl (by decide) rfl (fun ls hl => ?_)
      refine lv_iconst (v := 1) hx hb dL_rule_12 (by decide) ?_
      refine ret _ _ _ _ _ (hup hS1) dL_rule_13 ⟨by rw [hF9]; rfl, by rw [hF9]; exact hX1, by rw [hF9]; exact hat1⟩
  · have hF9 : (FL_rule σ x p1 p2 p3) s.heap.size = .ok (v, τ) := hF
    have hat1 := hat.kept (hS1.2.1 oo hat.lt hAo)
    refine lv_goto (tgt := 14) hx hb dL_rule_7 (by decide) ?_
    refine lv_iconst (v := 0) hx hb dL_rule_14 (by decide) ?_
    exact ret _ _ _ _ _ (hup hS1) dL_rule_15 ⟨by rw [hF9]; rfl, by rw [hF9]; exact hX1, by rw [hF9]; exact hat1⟩
def cd_steal : Nat → Int32 := (fun k => if k = 3 then 1 else if k = 2 then 2 else 0)
def FL_steal (σ : XS) (x : Nat) (p1 : Int32) : Nat → Except Nat (Unit × XS) := (fun _ => f_X10_steal σ x p1)
set_option maxRecDepth 100000 in
theorem k_L_steal (l : Launch) (D : va_G) (a : Nat → ClassId) (x e0 : Nat) (A : Nat → Prop) (hfl : l.stackTraces = false) (oo : Nat) (f : Nat → Int64) (σ : XS) (p1 : Int32) (hok : of_X10_steal σ x p1) (her : ∀ nq k, (FL_steal σ x p1) nq = .error k → k = 3 ∨ k = 2) : KH l yL_steal cL_steal 3 [(0, 5, 8, 21), (0, 5, 11, 15)] 8 135 2 12 [.ref x, .int p1] (fun z => A z ∨ z = oo) (BH D a x e0 A oo f σ) (PH D a x e0 A oo cd_steal cvV (FL_steal σ x p1) f σ) := by
  refine goH (D := D) (a := a) (by decide +kernel) (fun _ h => h.1.1.1) (Nat.le_of_ble_eq_true rfl) ?_
  intro p e s m args below meth c ls R Q hRf hRl hRc hRs C htab hB hl ret
  obtain ⟨⟨hE, hX⟩, hat, hAo, hNc⟩ := hB
  have hl : lv_has ls 3 [(0, .ref x), (1, .int p1)] := hl
  have hx := C.1.1
  have hb := C.1.2.1
  have hts := C.1.2.2.2.2
  have hown := C.1.2.2.2.1
  have hup : ∀ {H : Heap} {locs : List Loc}, va_S A s.heap H locs → va_S (fun z => A z ∨ z = oo) s.heap H locs := fun h => va_S_up h (fun _ => Or.inl)
  refine lv_aload_n hx hb dL_steal_0 rfl (lv_at hl 0 rfl) ?_
  refine lv_iload_n hx hb dL_steal_1 rfl (lv_at hl 1 rfl) ?_
  refine cc_HU (av := [.int p1]) (rest := []) C hE hX (k_X10_steal l D a x e0 A hfl σ p1 hok) cw_L_95 (okR_of hRf hRl (Nat.le_of_ble_eq_true rfl) (Nat.le_of_ble_eq_true rfl)) rfl rfl hl.1 (Nat.le_of_ble_eq_true rfl) (by rw [hRc]; exact Nat.le_refl _) (by rw [hRs]; exact Nat.le_refl _) dL_steal_2 (fun k E ce q H1 locs1 hF hE1 hq hv hcl hz hkp hL => ?_) (fun v τ H1 locs1 hF hX1 hS1 => ?_)
  · have hX1 : XP D a x e0 A σ H1 := hX.ext hkp
    have hat1 := hat.kept (hkp oo hat.lt)
    have hS1 : va_S A s.heap H1 locs1 := ⟨hz, fun z h _ => hkp z h, hL⟩
    have hF9 : (FL_steal σ x p1) s.heap.size = .error k := hF
    rcases her _ _ hF9 with rfl | rfl
    · refine vx_catch (name := exN 3) (E := exN 3) hown [] ⟨0, 5, 8, 21⟩ [⟨0, 5, 11, 15⟩] (htab.trans rfl) (fun z hz9 => nomatch hz9) rfl (by decide) (hts _ q_442) (va_Nw.use rfl (hE.2.1 _ cbx_3)) hq hv (by rw [← hE1]; exact hcl) ?_
      refine lv_astore_n (lv' := (2, .ref q) :: [(0, .ref x), (1, .int p1)]) hx hb dL_steal_8 rfl hl (by decide) rfl (fun ls hl => ?_)
      refine lv_iconst (v := 1) hx hb dL_steal_9 (by decide) ?_
      refine ret _ _ _ _ _ (hup hS1) dL_steal_10 ⟨by rw [hF9]; rfl, by rw [hF9]; exact hX1, by rw [hF9]; exact hat1⟩
    · refine vx_catch (name := exN 2) (E := exN 2) hown [⟨0, 5, 8, 21⟩] ⟨0, 5, 11, 15⟩ [] (htab.trans rfl) (fun z hz9 => by
        rcases List.mem_cons.mp hz9 with rfl | hz9
        · exact Or.inr ⟨by decide, exN 3, hts _ q_442, hNc (exN 2, exN 3) (by decide +kernel)⟩
        · exact nomatch hz9) rfl (by decide) (hts _ q_315) (va_Nw.use rfl (hE.2.1 _ cbx_2)) hq hv (by rw [← hE1]; exact hcl) ?_
      refine lv_astore_n (lv' := (2, .ref q) :: [(0, .ref x), (1, .int p1)]) hx hb dL_steal_11 rfl hl (by decide) rfl (fun ls hl => ?_)
      refine lv_iconst (v := 2) hx hb dL_steal_12 (by decide) ?_
      refine ret _ _ _ _ _ (hup hS1) dL_steal_13 ⟨by rw [hF9]; rfl, by rw [hF9]; exact hX1, by rw [hF9]; exact hat1⟩
  · have hF9 : (FL_steal σ x p1) s.heap.size = .ok (v, τ) := hF
    have hat1 := hat.kept (hS1.2.1 oo hat.lt hAo)
    refine lv_goto (tgt := 14) hx hb dL_steal_5 (by decide) ?_
    refine lv_iconst (v := 0) hx hb dL_steal_14 (by decide) ?_
    exact ret _ _ _ _ _ (hup hS1) dL_steal_15 ⟨by rw [hF9]; rfl, by rw [hF9]; exact hX1, by rw [hF9]; exact hat1⟩
def cd_stone : Nat → Int32 := (fun k => if k = 3 then 1 else if k = 1 then 2 else 0)
def FL_stone (σ : XS) (x : Nat) (p1 : Int32) (p2 : Int32) : Nat → Except Nat (Int32 × XS) := (fun _ => exm σ (f_X10_stone σ x p1 p2))
set_option maxRecDepth 100000 in
theorem k_L_stone (l : Launch) (D : va_G) (a : Nat → ClassId) (x e0 : Nat) (A : Nat → Prop) (hfl : l.stackTraces = false) (oo : Nat) (f : Nat → Int64) (σ : XS) (p1 : Int32) (p2 : Int32) (hok : of_X10_stone σ x p1 p2) (her : ∀ nq k, (FL_stone σ x p1 p2) nq = .error k → k = 3 ∨ k = 1) : KH l yL_stone cL_stone 5 [(0, 10, 13, 21), (0, 10, 17, 13)] 8 137 2 12 [.ref x, .int p1, .int p2, .ref oo] (fun z => A z ∨ z = oo) (BH D a x e0 A oo f σ) (PH D a x e0 A oo cd_stone cvI (FL_stone σ x p1 p2) f σ) := by
  refine goH (D := D) (a := a) (by decide +kernel) (fun _ h => h.1.1.1) (Nat.le_of_ble_eq_true rfl) ?_
  intro p e s m args below meth c ls R Q hRf hRl hRc hRs C htab hB hl ret
  obtain ⟨⟨hE, hX⟩, hat, hAo, hNc⟩ := hB
  have hl : lv_has ls 5 [(0, .ref x), (1, .int p1), (2, .int p2), (3, .ref oo)] := hl
  have hx := C.1.1
  have hb := C.1.2.1
  have hts := C.1.2.2.2.2
  have hown := C.1.2.2.2.1
  have hup : ∀ {H : Heap} {locs : List Loc}, va_S A s.heap H locs → va_S (fun z => A z ∨ z = oo) s.heap H locs := fun h => va_S_up h (fun _ => Or.inl)
  refine lv_aload_n hx hb dL_stone_0 rfl (lv_at hl 3 rfl) ?_
  refine lv_iconst (v := 0) hx hb dL_stone_1 (by decide) ?_
  refine lv_aload_n hx hb dL_stone_2 rfl (lv_at hl 0 rfl) ?_
  refine lv_iload_n hx hb dL_stone_3 rfl (lv_at hl 1 rfl) ?_
  refine lv_iload_n hx hb dL_stone_4 rfl (lv_at hl 2 rfl) ?_
  refine cc_HT (av := [.int p1, .int p2]) (rest := [.int 0, .ref oo]) C hE hX (k_X10_stone l D a x e0 A hfl σ p1 p2 hok) cw_L_112 (okR_of hRf hRl (Nat.le_of_ble_eq_true rfl) (Nat.le_of_ble_eq_true rfl)) rfl rfl hl.1 (Nat.le_of_ble_eq_true rfl) (by rw [hRc]; exact Nat.le_refl _) (by rw [hRs]; exact Nat.le_refl _) dL_stone_5 (fun k E ce q H1 locs1 hF hE1 hq hv hcl hz hkp hL => ?_) (fun v τ H1 locs1 hF hX1 hS1 => ?_)
  · have hX1 : XP D a x e0 A σ H1 := hX.ext hkp
    have hat1 := hat.kept (hkp oo hat.lt)
    have hS1 : va_S A s.heap H1 locs1 := ⟨hz, fun z h _ => hkp z h, hL⟩
    have hF9 : (FL_stone σ x p1 p2) s.heap.size = .error k := hF
    rcases her _ _ hF9 with rfl | rfl
    · refine vx_catch (name := exN 3) (E := exN 3) hown [] ⟨0, 10, 13, 21⟩ [⟨0, 10, 17, 13⟩] (htab.trans rfl) (fun z hz9 => nomatch hz9) rfl (by decide) (hts _ q_442) (va_Nw.use rfl (hE.2.1 _ cbx_3)) hq hv (by rw [← hE1]; exact hcl) ?_
      refine lv_astore (lv' := (4, .ref q) :: [(0, .ref x), (1, .int p1), (2, .int p2), (3, .ref oo)]) hx hb dL_stone_13 hl (by decide) rfl (fun ls hl => ?_)
      refine lv_iconst (v := 1) hx hb dL_stone_15 (by decide) ?_
      refine ret _ _ _ _ _ (hup hS1) dL_stone_16 ⟨by rw [hF9]; rfl, by rw [hF9]; exact hX1, by rw [hF9]; exact hat1⟩
    · refine vx_catch (name := exN 1) (E := exN 1) hown [⟨0, 10, 13, 21⟩] ⟨0, 10, 17, 13⟩ [] (htab.trans rfl) (fun z hz9 => by
        rcases List.mem_cons.mp hz9 with rfl | hz9
        · exact Or.inr ⟨by decide, exN 3, hts _ q_442, hNc (exN 1, exN 3) (by decide +kernel)⟩
        · exact nomatch hz9) rfl (by decide) (hts _ q_314) (va_Nw.use rfl (hE.2.1 _ cbx_1)) hq hv (by rw [← hE1]; exact hcl) ?_
      refine lv_astore (lv' := (4, .ref q) :: [(0, .ref x), (1, .int p1), (2, .int p2), (3, .ref oo)]) hx hb dL_stone_17 hl (by decide) rfl (fun ls hl => ?_)
      refine lv_iconst (v := 2) hx hb dL_stone_19 (by decide) ?_
      refine ret _ _ _ _ _ (hup hS1) dL_stone_20 ⟨by rw [hF9]; rfl, by rw [hF9]; exact hX1, by rw [hF9]; exact hat1⟩
  · have hF9 : (FL_stone σ x p1 p2) s.heap.size = .ok (v, τ) := hF
    have hat1 := hat.kept (hS1.2.1 oo hat.lt hAo)
    refine lv_i2l (v := v.toInt64) hx hb dL_stone_8 rfl ?_
    refine wx_last C hat1 dL_stone_9 (fun H2 locs2 g1 g2 g3 g4 => ?_)
    refine lv_goto (tgt := 21) hx hb dL_stone_10 (by decide) ?_
    refine lv_iconst (v := 0) hx hb dL_stone_21 (by decide) ?_
    exact ret _ _ _ _ _ (g4 (Or.inr rfl) (hup hS1)) dL_stone_22 ⟨by rw [hF9]; rfl, by rw [hF9]; exact (hX1.kept1 hAo g3), by rw [hF9]; exact g1⟩
def cd_stream : Nat → Int32 := (fun k => if k = 3 then 1 else 0)
def FL_stream (σ : XS) (x : Nat) (p1 : Int32) (p2 : Int32) : Nat → Except Nat (Int32 × XS) := (fun _ => exm σ (f_X10_stream σ x p1 p2))
set_option maxRecDepth 100000 in
theorem k_L_stream (l : Launch) (D : va_G) (a : Nat → ClassId) (x e0 : Nat) (A : Nat → Prop) (hfl : l.stackTraces = false) (oo : Nat) (f : Nat → Int64) (σ : XS) (p1 : Int32) (p2 : Int32) (hok : of_X10_stream σ x p1 p2) (her : ∀ nq k, (FL_stream σ x p1 p2) nq = .error k → k = 3) : KH l yL_stream cL_stream 5 [(0, 17, 20, 21)] 8 137 2 12 [.ref x, .int p1, .int p2, .ref oo] (fun z => A z ∨ z = oo) (BH D a x e0 A oo f σ) (PH D a x e0 A oo cd_stream cvZ (FL_stream σ x p1 p2) f σ) := by
  refine goH (D := D) (a := a) (by decide +kernel) (fun _ h => h.1.1.1) (Nat.le_of_ble_eq_true rfl) ?_
  intro p e s m args below meth c ls R Q hRf hRl hRc hRs C htab hB hl ret
  obtain ⟨⟨hE, hX⟩, hat, hAo, hNc⟩ := hB
  have hl : lv_has ls 5 [(0, .ref x), (1, .int p1), (2, .int p2), (3, .ref oo)] := hl
  have hx := C.1.1
  have hb := C.1.2.1
  have hts := C.1.2.2.2.2
  have hown := C.1.2.2.2.1
  have hup : ∀ {H : Heap} {locs : List Loc}, va_S A s.heap H locs → va_S (fun z => A z ∨ z = oo) s.heap H locs := fun h => va_S_up h (fun _ => Or.inl)
  refine lv_aload_n hx hb dL_stream_0 rfl (lv_at hl 3 rfl) ?_
  refine lv_iconst (v := 0) hx hb dL_stream_1 (by decide) ?_
  refine lv_aload_n hx hb dL_stream_2 rfl (lv_at hl 0 rfl) ?_
  refine lv_iload_n hx hb dL_stream_3 rfl (lv_at hl 1 rfl) ?_
  refine lv_iload_n hx hb dL_stream_4 rfl (lv_at hl 2 rfl) ?_
  refine cc_HT (av := [.int p1, .int p2]) (rest := [.int 0, .ref oo]) C hE hX (k_X10_stream l D a x e0 A hfl σ p1 p2 hok) cw_L_48 (okR_of hRf hRl (Nat.le_of_ble_eq_true rfl) (Nat.le_of_ble_eq_true rfl)) rfl rfl hl.1 (Nat.le_of_ble_eq_true rfl) (by rw [hRc]; exact Nat.le_refl _) (by rw [hRs]; exact Nat.le_refl _) dL_stream_5 (fun k E ce q H1 locs1 hF hE1 hq hv hcl hz hkp hL => ?_) (fun v τ H1 locs1 hF hX1 hS1 => ?_)
  · have hX1 : XP D a x e0 A σ H1 := hX.ext hkp
    have hat1 := hat.kept (hkp oo hat.lt)
    have hS1 : va_S A s.heap H1 locs1 := ⟨hz, fun z h _ => hkp z h, hL⟩
    have hF9 : (FL_stream σ x p1 p2) s.heap.size = .error k := hF
    have hk9 := her _ _ hF9
    subst hk9
    · refine vx_catch (name := exN 3) (E := exN 3) hown [] ⟨0, 17, 20, 21⟩ [] (htab.trans rfl) (fun z hz9 => nomatch hz9) rfl (by decide) (hts _ q_442) (va_Nw.use rfl (hE.2.1 _ cbx_3)) hq hv (by rw [← hE1]; exact hcl) ?_
      refine lv_astore (lv' := (4, .ref q) :: [(0, .ref x), (1, .int p1), (2, .int p2), (3, .ref oo)]) hx hb dL_stream_20 hl (by decide) rfl (fun ls hl => ?_)
      refine lv_iconst (v := 1) hx hb dL_stream_22 (by decide) ?_
      refine ret _ _ _ _ _ (hup hS1) dL_stream_23 ⟨by rw [hF9]; rfl, by rw [hF9]; exact hX1, by rw [hF9]; exact hat1⟩
  · have hF9 : (FL_stream σ x p1 p2) s.heap.size = .ok (v, τ) := hF
    have hat1 := hat.kept (hS1.2.1 oo hat.lt hAo)
    refine lv_if_eq (tgt := 15) hx hb dL_stream_8 (by decide) (fun c9 => ?_) (fun c9 => ?_)
    · refine lv_lconst (v := 0) hx hb dL_stream_15 (by decide) ?_
      have hv9 : cvZ v f = va_up f 0 0 := by unfold cvZ; rw [if_pos c9]
      refine wx_last C hat1 dL_stream_16 (fun H2 locs2 g1 g2 g3 g4 => ?_)
      rw [← hv9] at g1
      refine lv_goto (tgt := 24) hx hb dL_stream_17 (by decide) ?_
      refine lv_iconst (v := 0) hx hb dL_stream_24 (by decide) ?_
      exact ret _ _ _ _ _ (g4 (Or.inr rfl) (hup hS1)) dL_stream_25 ⟨by rw [hF9]; rfl, by rw [hF9]; exact (hX1.kept1 hAo g3), by rw [hF9]; exact g1⟩
    · refine lv_lconst (v := 1) hx hb dL_stream_11 (by decide) ?_
      refine lv_goto (tgt := 16) hx hb dL_stream_12 (by decide) ?_
      have hv9 : cvZ v f = va_up f 0 1 := by unfold cvZ; rw [if_neg c9]
      refine wx_last C hat1 dL_stream_16 (fun H2 locs2 g1 g2 g3 g4 => ?_)
      rw [← hv9] at g1
      refine lv_goto (tgt := 24) hx hb dL_stream_17 (by decide) ?_
      refine lv_iconst (v := 0) hx hb dL_stream_24 (by decide) ?_
      exact ret _ _ _ _ _ (g4 (Or.inr rfl) (hup hS1)) dL_stream_25 ⟨by rw [hF9]; rfl, by rw [hF9]; exact (hX1.kept1 hAo g3), by rw [hF9]; exact g1⟩
def cd_told : Nat → Int32 := (fun k => if k = 3 then 1 else if k = 1 then 2 else 0)
def FL_told (σ : XS) (x : Nat) (p1 : Int32) (p2 : Int32) : Nat → Except Nat (Int64 × XS) := (fun _ => exm σ (f_X10_told σ x p1 p2))
set_option maxRecDepth 100000 in
theorem k_L_told (l : Launch) (D : va_G) (a : Nat → ClassId) (x e0 : Nat) (A : Nat → Prop) (hfl : l.stackTraces = false) (oo : Nat) (f : Nat → Int64) (σ : XS) (p1 : Int32) (p2 : Int32) (hok : of_X10_told σ x p1 p2) (her : ∀ nq k, (FL_told σ x p1 p2) nq = .error k → k = 3 ∨ k = 1) : KH l yL_told cL_told 5 [(0, 9, 12, 21), (0, 9, 16, 13)] 8 137 2 12 [.ref x, .int p1, .int p2, .ref oo] (fun z => A z ∨ z = oo) (BH D a x e0 A oo f σ) (PH D a x e0 A oo cd_told cvL (FL_told σ x p1 p2) f σ) := by
  refine goH (D := D) (a := a) (by decide +kernel) (fun _ h => h.1.1.1) (Nat.le_of_ble_eq_true rfl) ?_
  intro p e s m args below meth c ls R Q hRf hRl hRc hRs C htab hB hl ret
  obtain ⟨⟨hE, hX⟩, hat, hAo, hNc⟩ := hB
  have hl : lv_has ls 5 [(0, .ref x), (1, .int p1), (2, .int p2), (3, .ref oo)] := hl
  have hx := C.1.1
  have hb := C.1.2.1
  have hts := C.1.2.2.2.2
  have hown := C.1.2.2.2.1
  have hup : ∀ {H : Heap} {locs : List Loc}, va_S A s.heap H locs → va_S (fun z => A z ∨ z = oo) s.heap H locs := fun h => va_S_up h (fun _ => Or.inl)
  refine lv_aload_n hx hb dL_told_0 rfl (lv_at hl 3 rfl) ?_
  refine lv_iconst (v := 0) hx hb dL_told_1 (by decide) ?_
  refine lv_aload_n hx hb dL_told_2 rfl (lv_at hl 0 rfl) ?_
  refine lv_iload_n hx hb dL_told_3 rfl (lv_at hl 1 rfl) ?_
  refine lv_iload_n hx hb dL_told_4 rfl (lv_at hl 2 rfl) ?_
  refine cc_HT (av := [.int p1, .int p2]) (rest := [.int 0, .ref oo]) C hE hX (k_X10_told l D a x e0 A hfl σ p1 p2 hok) cw_L_44 (okR_of hRf hRl (Nat.le_of_ble_eq_true rfl) (Nat.le_of_ble_eq_true rfl)) rfl rfl hl.1 (Nat.le_of_ble_eq_true rfl) (by rw [hRc]; exact Nat.le_refl _) (by rw [hRs]; exact Nat.le_refl _) dL_told_5 (fun k E ce q H1 locs1 hF hE1 hq hv hcl hz hkp hL => ?_) (fun v τ H1 locs1 hF hX1 hS1 => ?_)
  · have hX1 : XP D a x e0 A σ H1 := hX.ext hkp
    have hat1 := hat.kept (hkp oo hat.lt)
    have hS1 : va_S A s.heap H1 locs1 := ⟨hz, fun z h _ => hkp z h, hL⟩
    have hF9 : (FL_told σ x p1 p2) s.heap.size = .error k := hF
    rcases her _ _ hF9 with rfl | rfl
    · refine vx_catch (name := exN 3) (E := exN 3) hown [] ⟨0, 9, 12, 21⟩ [⟨0, 9, 16, 13⟩] (htab.trans rfl) (fun z hz9 => nomatch hz9) rfl (by decide) (hts _ q_442) (va_Nw.use rfl (hE.2.1 _ cbx_3)) hq hv (by rw [← hE1]; exact hcl) ?_
      refine lv_astore (lv' := (4, .ref q) :: [(0, .ref x), (1, .int p1), (2, .int p2), (3, .ref oo)]) hx hb dL_told_12 hl (by decide) rfl (fun ls hl => ?_)
      refine lv_iconst (v := 1) hx hb dL_told_14 (by decide) ?_
      refine ret _ _ _ _ _ (hup hS1) dL_told_15 ⟨by rw [hF9]; rfl, by rw [hF9]; exact hX1, by rw [hF9]; exact hat1⟩
    · refine vx_catch (name := exN 1) (E := exN 1) hown [⟨0, 9, 12, 21⟩] ⟨0, 9, 16, 13⟩ [] (htab.trans rfl) (fun z hz9 => by
        rcases List.mem_cons.mp hz9 with rfl | hz9
        · exact Or.inr ⟨by decide, exN 3, hts _ q_442, hNc (exN 1, exN 3) (by decide +kernel)⟩
        · exact nomatch hz9) rfl (by decide) (hts _ q_314) (va_Nw.use rfl (hE.2.1 _ cbx_1)) hq hv (by rw [← hE1]; exact hcl) ?_
      refine lv_astore (lv' := (4, .ref q) :: [(0, .ref x), (1, .int p1), (2, .int p2), (3, .ref oo)]) hx hb dL_told_16 hl (by decide) rfl (fun ls hl => ?_)
      refine lv_iconst (v := 2) hx hb dL_told_18 (by decide) ?_
      refine ret _ _ _ _ _ (hup hS1) dL_told_19 ⟨by rw [hF9]; rfl, by rw [hF9]; exact hX1, by rw [hF9]; exact hat1⟩
  · have hF9 : (FL_told σ x p1 p2) s.heap.size = .ok (v, τ) := hF
    have hat1 := hat.kept (hS1.2.1 oo hat.lt hAo)
    refine wx_last C hat1 dL_told_8 (fun H2 locs2 g1 g2 g3 g4 => ?_)
    refine lv_goto (tgt := 20) hx hb dL_told_9 (by decide) ?_
    refine lv_iconst (v := 0) hx hb dL_told_20 (by decide) ?_
    exact ret _ _ _ _ _ (g4 (Or.inr rfl) (hup hS1)) dL_told_21 ⟨by rw [hF9]; rfl, by rw [hF9]; exact (hX1.kept1 hAo g3), by rw [hF9]; exact g1⟩
def cd_walk : Nat → Int32 := (fun k => if k = 3 then 1 else if k = 1 then 2 else if k = 2 then 3 else 0)
def FL_walk (σ : XS) (x : Nat) (p1 : Int32) (p2 : Int32) (p3 : Int32) (p4 : Int32) : Nat → Except Nat (Int64 × XS) := (fun nq => f_X10_walk σ x nq p1 p2 p3 p4)
set_option maxRecDepth 100000 in
theorem k_L_walk (l : Launch) (D : va_G) (a : Nat → ClassId) (x e0 : Nat) (A : Nat → Prop) (hfl : l.stackTraces = false) (oo : Nat) (f : Nat → Int64) (σ : XS) (p1 : Int32) (p2 : Int32) (p3 : Int32) (p4 : Int32) (hok : ∀ nq, xk σ nq = 0 → of_X10_walk σ x nq p1 p2 p3 p4) (her : ∀ nq k, (FL_walk σ x p1 p2 p3 p4) nq = .error k → k = 3 ∨ k = 1 ∨ k = 2) : KH l yL_walk cL_walk 7 [(0, 13, 16, 21), (0, 13, 20, 13), (0, 13, 24, 15)] 9 181 6 329 [.ref x, .int p1, .int p2, .int p3, .int p4, .ref oo] (fun z => A z ∨ z = oo) (BH D a x e0 A oo f σ) (PH D a x e0 A oo cd_walk cvL (FL_walk σ x p1 p2 p3 p4) f σ) := by
  refine goH (D := D) (a := a) (by decide +kernel) (fun _ h => h.1.1.1) (Nat.le_of_ble_eq_true rfl) ?_
  intro p e s m args below meth c ls R Q hRf hRl hRc hRs C htab hB hl ret
  obtain ⟨⟨hE, hX⟩, hat, hAo, hNc⟩ := hB
  have hl : lv_has ls 7 [(0, .ref x), (1, .int p1), (2, .int p2), (3, .int p3), (4, .int p4), (5, .ref oo)] := hl
  have hx := C.1.1
  have hb := C.1.2.1
  have hts := C.1.2.2.2.2
  have hown := C.1.2.2.2.1
  have hup : ∀ {H : Heap} {locs : List Loc}, va_S A s.heap H locs → va_S (fun z => A z ∨ z = oo) s.heap H locs := fun h => va_S_up h (fun _ => Or.inl)
  refine lv_aload hx hb dL_walk_0 (lv_at hl 5 rfl) ?_
  refine lv_iconst (v := 0) hx hb dL_walk_2 (by decide) ?_
  refine lv_aload_n hx hb dL_walk_3 rfl (lv_at hl 0 rfl) ?_
  refine lv_iload_n hx hb dL_walk_4 rfl (lv_at hl 1 rfl) ?_
  refine lv_iload_n hx hb dL_walk_5 rfl (lv_at hl 2 rfl) ?_
  refine lv_iload_n hx hb dL_walk_6 rfl (lv_at hl 3 rfl) ?_
  refine lv_iload hx hb dL_walk_7 (lv_at hl 4 rfl) ?_
  refine cc_HU (av := [.int p1, .int p2, .int p3, .int p4]) (rest := [.int 0, .ref oo]) C hE hX (k_X10_walk l D a x e0 A hfl σ p1 p2 p3 p4 hok) cw_L_59 (okR_of hRf hRl (Nat.le_of_ble_eq_true rfl) (Nat.le_of_ble_eq_true rfl)) rfl rfl hl.1 (Nat.le_of_ble_eq_true rfl) (by rw [hRc]; exact Nat.le_refl _) (by rw [hRs]; exact Nat.le_refl _) dL_walk_9 (fun k E ce q H1 locs1 hF hE1 hq hv hcl hz hkp hL => ?_) (fun v τ H1 locs1 hF hX1 hS1 => ?_)
  · have hX1 : XP D a x e0 A σ H1 := hX.ext hkp
    have hat1 := hat.kept (hkp oo hat.lt)
    have hS1 : va_S A s.heap H1 locs1 := ⟨hz, fun z h _ => hkp z h, hL⟩
    have hF9 : (FL_walk σ x p1 p2 p3 p4) s.heap.size = .error k := hF
    rcases her _ _ hF9 with rfl | rfl | rfl
    · refine vx_catch (name := exN 3) (E := exN 3) hown [] ⟨0, 13, 16, 21⟩ [⟨0, 13, 20, 13⟩, ⟨0, 13, 24, 15⟩] (htab.trans rfl) (fun z hz9 => nomatch hz9) rfl (by decide) (hts _ q_442) (va_Nw.use rfl (hE.2.1 _ cbx_3)) hq hv (by rw [← hE1]; exact hcl) ?_
      refine lv_astore (lv' := (6, .ref q) :: [(0, .ref x), (1, .int p1), (2, .int p2), (3, .int p3), (4, .int p4), (5, .ref oo)]) hx hb dL_walk_16 hl (by decide) rfl (fun ls hl => ?_)
      refine lv_iconst (v := 1) hx hb dL_walk_18 (by decide) ?_
      refine ret _ _ _ _ _ (hup hS1) dL_walk_19 ⟨by rw [hF9]; rfl, by rw [hF9]; exact hX1, by rw [hF9]; exact hat1⟩
    · refine vx_catch (name := exN 1) (E := exN 1) hown [⟨0, 13, 16, 21⟩] ⟨0, 13, 20, 13⟩ [⟨0, 13, 24, 15⟩] (htab.trans rfl) (fun z hz9 => by
        rcases List.mem_cons.mp hz9 with rfl | hz9
        · exact Or.inr ⟨by decide, exN 3, hts _ q_442, hNc (exN 1, exN 3) (by decide +kernel)⟩
        · exact nomatch hz9) rfl (by decide) (hts _ q_314) (va_Nw.use rfl (hE.2.1 _ cbx_1)) hq hv (by rw [← hE1]; exact hcl) ?_
      refine lv_astore (lv' := (6, .ref q) :: [(0, .ref x), (1, .int p1), (2, .int p2), (3, .int p3), (4, .int p4), (5, .ref oo)]) hx hb dL_walk_20 hl (by decide) rfl (fun ls hl => ?_)
      refine lv_iconst (v := 2) hx hb dL_walk_22 (by decide) ?_
      refine ret _ _ _ _ _ (hup hS1) dL_walk_23 ⟨by rw [hF9]; rfl, by rw [hF9]; exact hX1, by rw [hF9]; exact hat1⟩
    · refine vx_catch (name := exN 2) (E := exN 2) hown [⟨0, 13, 16, 21⟩, ⟨0, 13, 20, 13⟩] ⟨0, 13, 24, 15⟩ [] (htab.trans rfl) (fun z hz9 => by
        rcases List.mem_cons.mp hz9 with rfl | hz9
        · exact Or.inr ⟨by decide, exN 3, hts _ q_442, hNc (exN 2, exN 3) (by decide +kernel)⟩
        rcases List.mem_cons.mp hz9 with rfl | hz9
        · exact Or.inr ⟨by decide, exN 1, hts _ q_314, hNc (exN 2, exN 1) (by decide +kernel)⟩
        · exact nomatch hz9) rfl (by decide) (hts _ q_315) (va_Nw.use rfl (hE.2.1 _ cbx_2)) hq hv (by rw [← hE1]; exact hcl) ?_
      refine lv_astore (lv' := (6, .ref q) :: [(0, .ref x), (1, .int p1), (2, .int p2), (3, .int p3), (4, .int p4), (5, .ref oo)]) hx hb dL_walk_24 hl (by decide) rfl (fun ls hl => ?_)
      refine lv_iconst (v := 3) hx hb dL_walk_26 (by decide) ?_
      refine ret _ _ _ _ _ (hup hS1) dL_walk_27 ⟨by rw [hF9]; rfl, by rw [hF9]; exact hX1, by rw [hF9]; exact hat1⟩
  · have hF9 : (FL_walk σ x p1 p2 p3 p4) s.heap.size = .ok (v, τ) := hF
    have hat1 := hat.kept (hS1.2.1 oo hat.lt hAo)
    refine wx_last C hat1 dL_walk_12 (fun H2 locs2 g1 g2 g3 g4 => ?_)
    refine lv_goto (tgt := 28) hx hb dL_walk_13 (by decide) ?_
    refine lv_iconst (v := 0) hx hb dL_walk_28 (by decide) ?_
    exact ret _ _ _ _ _ (g4 (Or.inr rfl) (hup hS1)) dL_walk_29 ⟨by rw [hF9]; rfl, by rw [hF9]; exact (hX1.kept1 hAo g3), by rw [hF9]; exact g1⟩
def cd_whole : Nat → Int32 := (fun k => if k = 3 then 1 else 0)
def FL_whole (σ : XS) (x : Nat) (p1 : Int32) : Nat → Except Nat (Int32 × XS) := (fun _ => exm σ (f_X10_whole σ x p1))
set_option maxRecDepth 100000 in
theorem k_L_whole (l : Launch) (D : va_G) (a : Nat → ClassId) (x e0 : Nat) (A : Nat → Prop) (hfl : l.stackTraces = false) (oo : Nat) (f : Nat → Int64) (σ : XS) (p1 : Int32) (hok : of_X10_whole σ x p1) (her : ∀ nq k, (FL_whole σ x p1) nq = .error k → k = 3) : KH l yL_whole cL_whole 4 [(0, 9, 12, 21)] 8 138 1 6 [.ref x, .int p1, .ref oo] (fun z => A z ∨ z = oo) (BH D a x e0 A oo f σ) (PH D a x e0 A oo cd_whole cvI (FL_whole σ x p1) f σ) := by
  refine goH (D := D) (a := a) (by decide +kernel) (fun _ h => h.1.1.1) (Nat.le_of_ble_eq_true rfl) ?_
  intro p e s m args below meth c ls R Q hRf hRl hRc hRs C htab hB hl ret
  obtain ⟨⟨hE, hX⟩, hat, hAo, hNc⟩ := hB
  have hl : lv_has ls 4 [(0, .ref x), (1, .int p1), (2, .ref oo)] := hl
  have hx := C.1.1
  have hb := C.1.2.1
  have hts := C.1.2.2.2.2
  have hown := C.1.2.2.2.1
  have hup : ∀ {H : Heap} {locs : List Loc}, va_S A s.heap H locs → va_S (fun z => A z ∨ z = oo) s.heap H locs := fun h => va_S_up h (fun _ => Or.inl)
  refine lv_aload_n hx hb dL_whole_0 rfl (lv_at hl 2 rfl) ?_
  refine lv_iconst (v := 0) hx hb dL_whole_1 (by decide) ?_
  refine lv_aload_n hx hb dL_whole_2 rfl (lv_at hl 0 rfl) ?_
  refine lv_iload_n hx hb dL_whole_3 rfl (lv_at hl 1 rfl) ?_
  refine cc_HT (av := [.int p1]) (rest := [.int 0, .ref oo]) C hE hX (k_X10_whole l D a x e0 A hfl σ p1 hok) cw_L_115 (okR_of hRf hRl (Nat.le_of_ble_eq_true rfl) (Nat.le_of_ble_eq_true rfl)) rfl rfl hl.1 (Nat.le_of_ble_eq_true rfl) (by rw [hRc]; exact Nat.le_refl _) (by rw [hRs]; exact Nat.le_refl _) dL_whole_4 (fun k E ce q H1 locs1 hF hE1 hq hv hcl hz hkp hL => ?_) (fun v τ H1 locs1 hF hX1 hS1 => ?_)
  · have hX1 : XP D a x e0 A σ H1 := hX.ext hkp
    have hat1 := hat.kept (hkp oo hat.lt)
    have hS1 : va_S A s.heap H1 locs1 := ⟨hz, fun z h _ => hkp z h, hL⟩
    have hF9 : (FL_whole σ x p1) s.heap.size = .error k := hF
    have hk9 := her _ _ hF9
    subst hk9
    · refine vx_catch (name := exN 3) (E := exN 3) hown [] ⟨0, 9, 12, 21⟩ [] (htab.trans rfl) (fun z hz9 => nomatch hz9) rfl (by decide) (hts _ q_442) (va_Nw.use rfl (hE.2.1 _ cbx_3)) hq hv (by rw [← hE1]; exact hcl) ?_
      refine lv_astore_n (lv' := (3, .ref q) :: [(0, .ref x), (1, .int p1), (2, .ref oo)]) hx hb dL_whole_12 rfl hl (by decide) rfl (fun ls hl => ?_)
      refine lv_iconst (v := 1) hx hb dL_whole_13 (by decide) ?_
      refine ret _ _ _ _ _ (hup hS1) dL_whole_14 ⟨by rw [hF9]; rfl, by rw [hF9]; exact hX1, by rw [hF9]; exact hat1⟩
  · have hF9 : (FL_whole σ x p1) s.heap.size = .ok (v, τ) := hF
    have hat1 := hat.kept (hS1.2.1 oo hat.lt hAo)
    refine lv_i2l (v := v.toInt64) hx hb dL_whole_7 rfl ?_
    refine wx_last C hat1 dL_whole_8 (fun H2 locs2 g1 g2 g3 g4 => ?_)
    refine lv_goto (tgt := 15) hx hb dL_whole_9 (by decide) ?_
    refine lv_iconst (v := 0) hx hb dL_whole_15 (by decide) ?_
    exact ret _ _ _ _ _ (g4 (Or.inr rfl) (hup hS1)) dL_whole_16 ⟨by rw [hF9]; rfl, by rw [hF9]; exact (hX1.kept1 hAo g3), by rw [hF9]; exact g1⟩
def cd_wind : Nat → Int32 := (fun k => if k = 1 then 1 else if k = 2 then 2 else 0)
def FL_wind (σ : XS) (x : Nat) (p1 : Int32) (p2 : Int32) (p3 : Int32) : Nat → Except Nat (Unit × XS) := (fun nq => f_X10_wind σ x nq p1 p2 p3)
set_option maxRecDepth 100000 in
theorem k_L_wind (l : Launch) (D : va_G) (a : Nat → ClassId) (x e0 : Nat) (A : Nat → Prop) (hfl : l.stackTraces = false) (oo : Nat) (f : Nat → Int64) (σ : XS) (p1 : Int32) (p2 : Int32) (p3 : Int32) (hok : ∀ nq, xk σ nq = 0 → of_X10_wind σ x nq p1 p2 p3) (her : ∀ nq k, (FL_wind σ x p1 p2 p3) nq = .error k → k = 1 ∨ k = 2) : KH l yL_wind cL_wind 5 [(0, 7, 10, 13), (0, 7, 14, 15)] 9 180 5 321 [.ref x, .int p1, .int p2, .int p3] (fun z => A z ∨ z = oo) (BH D a x e0 A oo f σ) (PH D a x e0 A oo cd_wind cvV (FL_wind σ x p1 p2 p3) f σ) := by
  refine goH (D := D) (a := a) (by decide +kernel) (fun _ h => h.1.1.1) (Nat.le_of_ble_eq_true rfl) ?_
  intro p e s m args below meth c ls R Q hRf hRl hRc hRs C htab hB hl ret
  obtain ⟨⟨hE, hX⟩, hat, hAo, hNc⟩ := hB
  have hl : lv_has ls 5 [(0, .ref x), (1, .int p1), (2, .int p2), (3, .int p3)] := hl
  have hx := C.1.1
  have hb := C.1.2.1
  have hts := C.1.2.2.2.2
  have hown := C.1.2.2.2.1
  have hup : ∀ {H : Heap} {locs : List Loc}, va_S A s.heap H locs → va_S (fun z => A z ∨ z = oo) s.heap H locs := fun h => va_S_up h (fun _ => Or.inl)
  refine lv_aload_n hx hb dL_wind_0 rfl (lv_at hl 0 rfl) ?_
  refine lv_iload_n hx hb dL_wind_1 rfl (lv_at hl 1 rfl) ?_
  refine lv_iload_n hx hb dL_wind_2 rfl (lv_at hl 2 rfl) ?_
  refine lv_iload_n hx hb dL_wind_3 rfl (lv_at hl 3 rfl) ?_
  refine cc_HU (av := [.int p1, .int p2, .int p3]) (rest := []) C hE hX (k_X10_wind l D a x e0 A hfl σ p1 p2 p3 hok) cw_L_55 (okR_of hRf hRl (Nat.le_of_ble_eq_true rfl) (Nat.le_of_ble_eq_true rfl)) rfl rfl hl.1 (Nat.le_of_ble_eq_true rfl) (by rw [hRc]; exact Nat.le_refl _) (by rw [hRs]; exact Nat.le_refl _) dL_wind_4 (fun k E ce q H1 locs1 hF hE1 hq hv hcl hz hkp hL => ?_) (fun v τ H1 locs1 hF hX1 hS1 => ?_)
  · have hX1 : XP D a x e0 A σ H1 := hX.ext hkp
    have hat1 := hat.kept (hkp oo hat.lt)
    have hS1 : va_S A s.heap H1 locs1 := ⟨hz, fun z h _ => hkp z h, hL⟩
    have hF9 : (FL_wind σ x p1 p2 p3) s.heap.size = .error k := hF
    rcases her _ _ hF9 with rfl | rfl
    · refine vx_catch (name := exN 1) (E := exN 1) hown [] ⟨0, 7, 10, 13⟩ [⟨0, 7, 14, 15⟩] (htab.trans rfl) (fun z hz9 => nomatch hz9) rfl (by decide) (hts _ q_314) (va_Nw.use rfl (hE.2.1 _ cbx_1)) hq hv (by rw [← hE1]; exact hcl) ?_
      refine lv_astore (lv' := (4, .ref q) :: [(0, .ref x), (1, .int p1), (2, .int p2), (3, .int p3)]) hx hb dL_wind_10 hl (by decide) rfl (fun ls hl => ?_)
      refine lv_iconst (v := 1) hx hb dL_wind_12 (by decide) ?_
      refine ret _ _ _ _ _ (hup hS1) dL_wind_13 ⟨by rw [hF9]; rfl, by rw [hF9]; exact hX1, by rw [hF9]; exact hat1⟩
    · refine vx_catch (name := exN 2) (E := exN 2) hown [⟨0, 7, 10, 13⟩] ⟨0, 7, 14, 15⟩ [] (htab.trans rfl) (fun z hz9 => by
        rcases List.mem_cons.mp hz9 with rfl | hz9
        · exact Or.inr ⟨by decide, exN 1, hts _ q_314, hNc (exN 2, exN 1) (by decide +kernel)⟩
        · exact nomatch hz9) rfl (by decide) (hts _ q_315) (va_Nw.use rfl (hE.2.1 _ cbx_2)) hq hv (by rw [← hE1]; exact hcl) ?_
      refine lv_astore (lv' := (4, .ref q) :: [(0, .ref x), (1, .int p1), (2, .int p2), (3, .int p3)]) hx hb dL_wind_14 hl (by decide) rfl (fun ls hl => ?_)
      refine lv_iconst (v := 2) hx hb dL_wind_16 (by decide) ?_
      refine ret _ _ _ _ _ (hup hS1) dL_wind_17 ⟨by rw [hF9]; rfl, by rw [hF9]; exact hX1, by rw [hF9]; exact hat1⟩
  · have hF9 : (FL_wind σ x p1 p2 p3) s.heap.size = .ok (v, τ) := hF
    have hat1 := hat.kept (hS1.2.1 oo hat.lt hAo)
    refine lv_goto (tgt := 18) hx hb dL_wind_7 (by decide) ?_
    refine lv_iconst (v := 0) hx hb dL_wind_18 (by decide) ?_
    exact ret _ _ _ _ _ (hup hS1) dL_wind_19 ⟨by rw [hF9]; rfl, by rw [hF9]; exact hX1, by rw [hF9]; exact hat1⟩
