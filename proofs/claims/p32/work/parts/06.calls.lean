/-! ===== contracts in one form, and their calls ===== -/
section CALLS
variable {p : Program} {l : Launch} {e : Env} {R : Room} {s : State} {m : MethodId} {args : Array Value} {below : List Frame} {meth : Method} {c : Code} {H : Heap} {locs : List Loc} {cells slots : Nat} {Q : State → Prop} {D : va_G} {a : Nat → ClassId} {mo : Nat} {cc : ByteArray} {nL : Nat} {pc : Nat} {ls : Array Slot} {rest st : List Value} {own C : String} {idx : Nat} {y : MethodName} {bytes : ByteArray} {maxL n fr lo : Nat} {ret : Option FieldType} {av : List Value}
abbrev hdY (y : MethodName) (n : Nat) : Prop := y.cls ≠ "java/lang/invoke/MethodHandle" ∧ y.cls ≠ "java/lang/invoke/VarHandle" ∧ (parseMethodDescriptor y.desc).map (fun d => d.parameters.length) = some n
/-- what a call of an instance method asks of the tables -/
def CWV (own C : String) (idx : Nat) (y : MethodName) (bytes : ByteArray) (maxL : Nat) (ret : Option FieldType) (n : Nat) : Prop :=
  Cond.methodLink own idx y ∈ TB ∧ Cond.instanceMethod y ∈ TB ∧ Cond.selects C y y ∈ TB ∧ Cond.initialized C ∈ TB ∧ Cond.code y bytes maxL ret ∈ TB ∧ y.cls = C ∧ hdY y n
/-- .. of a static one -/
def CWS (own : String) (idx : Nat) (y : MethodName) (bytes : ByteArray) (maxL : Nat) (ret : Option FieldType) (n : Nat) : Prop :=
  Cond.methodLink own idx y ∈ TB ∧ Cond.static y ∈ TB ∧ Cond.initialized y.cls ∈ TB ∧ Cond.code y bytes maxL ret ∈ TB ∧ hdY y n
/-- .. of a static one of the nest -/
def CWSN (own host : String) (idx : Nat) (y : MethodName) (bytes : ByteArray) (maxL : Nat) (ret : Option FieldType) (n : Nat) : Prop :=
  Cond.methodLinkNest own idx y host ∈ TB ∧ Cond.static y ∈ TB ∧ Cond.initialized y.cls ∈ TB ∧ Cond.code y bytes maxL ret ∈ TB ∧ hdY y n
/-- .. of a constructor -/
def CWI (own : String) (idx : Nat) (y : MethodName) (bytes : ByteArray) (maxL : Nat) (n : Nat) : Prop :=
  Cond.methodLink own idx y ∈ TB ∧ Cond.instanceMethod y ∈ TB ∧ Cond.initialized y.cls ∈ TB ∧ Cond.code y bytes maxL none ∈ TB ∧ y.name = "<init>" ∧ hdY y n
def CWIN (own host : String) (idx : Nat) (y : MethodName) (bytes : ByteArray) (maxL : Nat) (n : Nat) : Prop :=
  Cond.methodLinkNest own idx y host ∈ TB ∧ Cond.instanceMethod y ∈ TB ∧ Cond.initialized y.cls ∈ TB ∧ Cond.code y bytes maxL none ∈ TB ∧ y.name = "<init>" ∧ hdY y n
abbrev okR (R : Room) (maxL fr lo : Nat) : Prop := fr + 1 ≤ R.frames ∧ 8 + (maxL + 11) + lo ≤ R.locals
theorem cwv_of {mc ms : Nat} (h : CWV own C idx y bytes maxL ret n) (ht : ∀ w ∈ TB, w.before args s = true) (hR : okR R maxL fr lo) : CallW R s args own C idx y bytes maxL ret (.code y bytes maxL ret :: TB) { frames := fr, cells := mc, slots := ms, locals := lo } mc ms n := by
  obtain ⟨h1, h2, h3, h4, h5, h6, h7⟩ := h
  exact cwV n ht (tb_cons h1 (tb_cons h2 (tb_cons (by rw [h6] at *; exact h3) (tb_cons h4 (tb_cons h5 tb_self))))) rfl rfl rfl ⟨h6, h7⟩ hR
theorem cws_of {mc ms : Nat} (h : CWS own idx y bytes maxL ret n) (ht : ∀ w ∈ TB, w.before args s = true) (hR : okR R maxL fr lo) : CallB R s args own idx y bytes maxL ret (.code y bytes maxL ret :: TB) { frames := fr, cells := mc, slots := ms, locals := lo } mc ms n ∧ (Cond.static y).before args s = true := by
  obtain ⟨h1, h2, h3, h4, h5⟩ := h
  exact va_cwS n ht (tb_cons h1 (tb_cons h2 (tb_cons h3 (tb_cons h4 tb_self)))) rfl rfl rfl h5 hR
theorem cwi_of {mc ms : Nat} (h : CWI own idx y bytes maxL n) (ht : ∀ w ∈ TB, w.before args s = true) (hR : okR R maxL fr lo) : CallB R s args own idx y bytes maxL none (.code y bytes maxL none :: TB) { frames := fr, cells := mc, slots := ms, locals := lo } mc ms n ∧ y.name = "<init>" ∧ (Cond.instanceMethod y).before args s = true := by
  obtain ⟨h1, h2, h3, h4, h5, h6⟩ := h
  exact cwI n ht (tb_cons h4 tb_self) rfl rfl rfl (ht _ h3) (ht _ h1) (ht _ h2) h5 h6 hR
/-- a contract of a method that changes nothing -/
def K0 (l : Launch) (y : MethodName) (bytes : ByteArray) (maxL : Nat) (ret : Option FieldType) (fr lo : Nat) (av : List Value) (B : State → Prop) (v : Value) : Prop :=
  Met l y (.code y bytes maxL ret :: TB) { frames := fr, cells := 0, slots := 0, locals := lo } (va_Pc av B) (fun _ st oc t => oc = .returned (some v) ∧ t.heap = st.heap) 0 0 (fun _ => False)
abbrev BK (D : va_G) (a : Nat → ClassId) (U : State) : Prop := va_K D vwCl (tyL a) U
theorem bk_blind {U : State} (g : JFrame) (mk : MethodId) (x : Array Value) (h : va_K D vwCl (tyL a) U) : va_K D vwCl (tyL a) (U.calling g mk x) := va_K.moved (u := U) (U := U.calling g mk x) (Vm.Alike.refl U.vm) h
/-- the start of a method's body -/
theorem start0 {B : State → Prop} {v : Value} (hy : plainName y.cls = true) (hBK : ∀ U, B U → va_K D vwCl (tyL a) U) (hlen : (lg_sl av).length ≤ maxL)
    (body : ∀ (p : Program) (e : Env) (s : State) (m : MethodId) (below : List Frame) (meth : Method) (c : Code) (ls : Array Slot), Cx D a p s m av.toArray c bytes maxL y.cls → meth.sig.returnType = ret → meth.locks = false → B s → lv_has ls maxL (lv_args 0 av) →
      W p l e { frames := fr, cells := 0, slots := 0, locals := lo } s m av.toArray below meth c s.heap [] 0 0 (MQ below (fun _ st oc t => oc = .returned (some v) ∧ t.heap = st.heap) av.toArray s 0 0 (fun _ => False)) (F0 m 0 ls [])) : K0 l y bytes maxL ret fr lo av B v := by
  refine Met.ofW (cc := bytes) (maxL := maxL) (ret := ret) hy rfl ?_
  intro p e s m args below meth c s₁ B' hml hv
  obtain ⟨rfl, hB⟩ := hv
  have C : Cx D a p s m av.toArray c bytes maxL y.cls := ⟨⟨B'.exec, B'.bytes, hml, findClass_of_methodNamed B'.named, fun w h => atoms_spec (ws := .code y bytes maxL ret :: TB) B'.pre w (List.mem_cons_of_mem _ h)⟩, hBK s hB⟩
  have hl := lv_entry av (n := maxL) hlen
  rw [lg_entry_eq]
  exact body p e s m below meth c _ C B'.returns B'.notSynchronized hB hl
/-! ends -/
section ENDS
variable {μ : MS}
theorem ret0i {x y : Int32} (C : Cx D a p s m args c cc nL own) (hr : meth.sig.returnType = some .int) (hk : meth.locks = false) (hdg : decode cc pc = .ok (.ireturn, 1)) (hf : y = x) : W p l e R s m args below meth c s.heap [] 0 0 (MQ below (fun _ st oc t => oc = .returned (some (.int y)) ∧ t.heap = st.heap) args s 0 0 (fun _ => False)) (F0 m pc ls [.int x]) := by
  subst hf
  exact W.iret C.1.1 C.1.2.1 hr (fun t ht _ => ⟨rfl, ht⟩) (fun _ h => nomatch h) hdg hk
theorem ret0z {x y : Int32} (C : Cx D a p s m args c cc nL own) (hr : meth.sig.returnType = some .boolean) (hk : meth.locks = false) (hdg : decode cc pc = .ok (.ireturn, 1)) (hz : zb x) (hf : y = x) : W p l e R s m args below meth c s.heap [] 0 0 (MQ below (fun _ st oc t => oc = .returned (some (.int y)) ∧ t.heap = st.heap) args s 0 0 (fun _ => False)) (F0 m pc ls [.int x]) := by
  subst hf
  exact W.zret C.1.1 C.1.2.1 hr (zb_nar hz) (fun t ht _ => ⟨rfl, ht⟩) (fun _ h => nomatch h) hdg hk
theorem ret0l {x y : Int64} (C : Cx D a p s m args c cc nL own) (hr : meth.sig.returnType = some .long) (hk : meth.locks = false) (hdg : decode cc pc = .ok (.lreturn, 1)) (hf : y = x) : W p l e R s m args below meth c s.heap [] 0 0 (MQ below (fun _ st oc t => oc = .returned (some (.long y)) ∧ t.heap = st.heap) args s 0 0 (fun _ => False)) (F0 m pc ls [.long x]) := by
  subst hf
  exact W.lret C.1.1 C.1.2.1 hr (fun t ht _ => ⟨rfl, ht⟩) (fun _ h => nomatch h) hdg hk
end ENDS

/-! a body over any room, arguments and goal, with a principle of return -/
abbrev Go (l : Launch) (D : va_G) (a : Nat → ClassId) (y : MethodName) (bytes : ByteArray) (maxL fr lo : Nat) (av : List Value) (X : Program → State → MethodId → Array Value → List Frame → Method → Code → Env → Room → (State → Prop) → Prop) : Prop :=
  ∀ (p : Program) (e : Env) (s : State) (m : MethodId) (args : Array Value) (below : List Frame) (meth : Method) (c : Code) (ls : Array Slot) (R : Room) (Q : State → Prop), R.frames = fr → R.locals = lo → Cx D a p s m args c bytes maxL y.cls → lv_has ls maxL (lv_args 0 av) → X p s m args below meth c e R Q → W p l e R s m args below meth c s.heap [] 0 0 Q (F0 m 0 ls [])
theorem go0i {B : State → Prop} {F : Int32} (hy : plainName y.cls = true) (hBK : ∀ U, B U → va_K D vwCl (tyL a) U) (hlen : (lg_sl av).length ≤ maxL)
    (body : Go l D a y bytes maxL fr lo av (fun p s m args below meth c e R Q => B s ∧ ∀ (pc : Nat) (ls : Array Slot) (x : Int32), decode bytes pc = .ok (.ireturn, 1) → F = x → W p l e R s m args below meth c s.heap [] 0 0 Q (F0 m pc ls [.int x]))) : K0 l y bytes maxL (some .int) fr lo av B (.int F) :=
  start0 hy hBK hlen fun p e s m below meth c ls C hr hk hB hl => body p e s m _ below meth c ls _ _ rfl rfl C hl ⟨hB, fun _ _ _ hdg hf => ret0i C hr hk hdg hf⟩
theorem go0z {B : State → Prop} {F : Int32} (hy : plainName y.cls = true) (hBK : ∀ U, B U → va_K D vwCl (tyL a) U) (hlen : (lg_sl av).length ≤ maxL)
    (body : Go l D a y bytes maxL fr lo av (fun p s m args below meth c e R Q => B s ∧ ∀ (pc : Nat) (ls : Array Slot) (x : Int32), decode bytes pc = .ok (.ireturn, 1) → zb x → F = x → W p l e R s m args below meth c s.heap [] 0 0 Q (F0 m pc ls [.int x]))) : K0 l y bytes maxL (some .boolean) fr lo av B (.int F) :=
  start0 hy hBK hlen fun p e s m below meth c ls C hr hk hB hl => body p e s m _ below meth c ls _ _ rfl rfl C hl ⟨hB, fun _ _ _ hdg hz hf => ret0z C hr hk hdg hz hf⟩
theorem go0l {B : State → Prop} {F : Int64} (hy : plainName y.cls = true) (hBK : ∀ U, B U → va_K D vwCl (tyL a) U) (hlen : (lg_sl av).length ≤ maxL)
    (body : Go l D a y bytes maxL fr lo av (fun p s m args below meth c e R Q => B s ∧ ∀ (pc : Nat) (ls : Array Slot) (x : Int64), decode bytes pc = .ok (.lreturn, 1) → F = x → W p l e R s m args below meth c s.heap [] 0 0 Q (F0 m pc ls [.long x]))) : K0 l y bytes maxL (some .long) fr lo av B (.long F) :=
  start0 hy hBK hlen fun p e s m below meth c ls C hr hk hB hl => body p e s m _ below meth c ls _ _ rfl rfl C hl ⟨hB, fun _ _ _ hdg hf => ret0l C hr hk hdg hf⟩
theorem okR_of {F L : Nat} (h1 : R.frames = F) (h2 : R.locals = L) (h3 : fr + 1 ≤ F) (h4 : 8 + (maxL + 11) + lo ≤ L) : okR R maxL fr lo := ⟨by rw [h1]; exact h3, by rw [h2]; exact h4⟩
/-! calls -/
theorem call0S {B : State → Prop} {v : Value} (C0 : Cx D a p s m args c cc nL own) (hM : K0 l y bytes maxL ret fr lo av B v) (cw : CWS own idx y bytes maxL ret n) (hR : okR R maxL fr lo) (hbl : ∀ (U : State) (g : JFrame) (mk : MethodId) (x : Array Value), B U → B (U.calling g mk x)) (hB : ∀ U : State, U.heap = H → s.WarmedH U.vm → B U)
    (hst : st = av.reverse ++ rest) (hn : av.length = n) (hsz : ls.size = nL) (hW : (rest.map fun v => v.category).sum ≤ 8) (hc : cells ≤ R.cells) (hs : slots ≤ R.slots) (hdg : decode cc pc = .ok (.invokestatic idx, 3))
    (kk : W p l e R s m args below meth c H locs cells slots Q (F0 m (pc + 3) ls (v :: rest))) : W p l e R s m args below meth c H locs cells slots Q (F0 m pc ls st) := by
  have hrun := va_runS (mc := 0) (ms := 0) (R := R) (e := e) (below := below) (meth := meth) (H := H) (locs := locs) (cells := cells) (slots := slots) (g := F0 m pc ls st) (As := av) (rest := rest) C0.1 hM (cws_of cw C0.1.2.2.2.2 hR) ⟨fun x U g mk q => ⟨q.1, hbl U g mk x q.2⟩, fun U hU hW => ⟨rfl, hB U hU hW⟩⟩ rfl hn hsz hst (lv_room hW) hdg ⟨hc, hs⟩
  intro T hT X
  obtain ⟨v', st₀, t, T', L, h0, X', hL, e1, e2, ⟨hv, hh⟩, stp⟩ := hrun T hT X
  cases hv
  obtain ⟨t2, a1, b1⟩ := kk T' (by rw [e1, hh, h0]) (Stand.forget X' (fun q h => (hL q h).elim))
  exact ⟨t2, stp t2 a1, b1⟩
theorem call0V {B : State → Prop} {v : Value} {b : Nat} (C0 : Cx D a p s m args c cc nL own) (hM : K0 l y bytes maxL ret fr lo (.ref b :: av) B v) (cw : CWV own C idx y bytes maxL ret n) (hR : okR R maxL fr lo) (hrc : ∃ cellB : Cell, H[b]? = some cellB ∧ cellB.vm.isStatics = false ∧ s.vm.findClass C = some cellB.cls) (hbl : ∀ (U : State) (g : JFrame) (mk : MethodId) (x : Array Value), B U → B (U.calling g mk x)) (hB : ∀ U : State, U.heap = H → s.WarmedH U.vm → B U)
    (hst : st = av.reverse ++ .ref b :: rest) (hn : av.length = n) (hsz : ls.size = nL) (hW : (rest.map fun v => v.category).sum ≤ 8) (hc : cells ≤ R.cells) (hs : slots ≤ R.slots) (hdg : decode cc pc = .ok (.invokevirtual idx, 3))
    (kk : W p l e R s m args below meth c H locs cells slots Q (F0 m (pc + 3) ls (v :: rest))) : W p l e R s m args below meth c H locs cells slots Q (F0 m pc ls st) := by
  have hrun := va_runV (mc := 0) (ms := 0) (R := R) (e := e) (below := below) (meth := meth) (H := H) (locs := locs) (cells := cells) (slots := slots) (g := F0 m pc ls st) (As := av) (rest := rest) (b := b) C0.1 hM (cwv_of cw C0.1.2.2.2.2 hR) ⟨fun x U g mk q => ⟨q.1, hbl U g mk x q.2⟩, hrc, fun U hU hW => ⟨rfl, hB U hU hW⟩⟩ rfl hn hsz hst (lv_room hW) hdg ⟨hc, hs⟩
  intro T hT X
  obtain ⟨v', st₀, t, T', L, h0, X', hL, e1, e2, ⟨hv, hh⟩, stp⟩ := hrun T hT X
  cases hv
  obtain ⟨t2, a1, b1⟩ := kk T' (by rw [e1, hh, h0]) (Stand.forget X' (fun q h => (hL q h).elim))
  exact ⟨t2, stp t2 a1, b1⟩
/-- .. of a static method -/
theorem cc_S {v : Value} (C0 : Cx D a p s m args c cc nL own) (hK : K0 l y bytes maxL ret fr lo av (BK D a) v) (cw : CWS own idx y bytes maxL ret n) (hR : okR R maxL fr lo)
    (hst : st = av.reverse ++ rest) (hn : av.length = n) (hsz : ls.size = nL) (hW : (rest.map fun v => v.category).sum ≤ 8) (hc : cells ≤ R.cells) (hs : slots ≤ R.slots) (hdg : decode cc pc = .ok (.invokestatic idx, 3))
    (kk : W p l e R s m args below meth c H locs cells slots Q (F0 m (pc + 3) ls (v :: rest))) : W p l e R s m args below meth c H locs cells slots Q (F0 m pc ls st) :=
  call0S C0 hK cw hR (fun U g mk x q => bk_blind g mk x q) (fun U hU hW => va_K.moved hW.alike C0.2) hst hn hsz hW hc hs hdg kk
end CALLS
/-! a switch -/
section SWITCH
variable {p : Program} {l : Launch} {e : Env} {R : Room} {s : State} {m : MethodId} {args : Array Value} {below : List Frame} {meth : Method} {c : Code} {H : Heap} {locs : List Loc} {cells slots : Nat} {Q : State → Prop} {cc : ByteArray} {pc : Nat} {ls : Array Slot} {rest : List Value}
theorem sw_in (hexec : p.tables.exec = Jvm.exec) (hb : c.code = cc) {dflt lo hi : Int} {offs : Array Int} {len : Nat} {x k : Int32} {off : Int} {tgt : Nat} (hdg : decode cc pc = .ok (.tableswitch dflt lo hi offs, len)) (hc : x = k) (h1 : ¬ k.toInt < lo) (h2 : ¬ hi < k.toInt) (ho : offs[(k.toInt - lo).toNat]? = some off) (ht : (pc : Int) + off = (tgt : Int)) (kk : W p l e R s m args below meth c H locs cells slots Q (F0 m tgt ls rest)) : W p l e R s m args below meth c H locs cells slots Q (F0 m pc ls (.int x :: rest)) := by
  subst hc
  exact lv_tableIn hexec hb hdg h1 h2 ho ht kk
end SWITCH
/-! a loop that may return: what it returned, or what comes behind it -/
def lret {α : Type} (r : Option α) (d : α) : α := match r with
  | some v => v
  | none => d
theorem lret_s {α : Type} {r : Option α} {d v : α} (h : r = some v) : lret r d = v := by rw [h]; rfl
theorem lret_n {α : Type} {r : Option α} {d : α} (h : r = none) : lret r d = d := by rw [h]; rfl
def lreto {α : Type} (r : Option α) (d : Prop) : Prop := match r with
  | some _ => True
  | none => d
theorem lreto_n {α : Type} {r : Option α} {d : Prop} (h : lreto r d) (e : r = none) : d := by rw [e] at h; exact h
/-! what may throw -/
def exb {α β : Type} (t : Except Nat α) (g : α → Except Nat β) : Except Nat β := match t with
  | .error k => .error k
  | .ok v => g v
def exo {α : Type} (t : Except Nat α) (g : α → Prop) : Prop := match t with
  | .error _ => True
  | .ok v => g v
theorem exb_ok {α β : Type} {t : Except Nat α} {g : α → Except Nat β} {v : α} (h : t = .ok v) : exb t g = g v := by rw [h]; rfl
theorem exb_er {α β : Type} {t : Except Nat α} {g : α → Except Nat β} {k : Nat} (h : t = .error k) : exb t g = .error k := by rw [h]; rfl
theorem exo_ok {α : Type} {t : Except Nat α} {g : α → Prop} {v : α} (h : exo t g) (e : t = .ok v) : g v := by rw [e] at h; exact h

