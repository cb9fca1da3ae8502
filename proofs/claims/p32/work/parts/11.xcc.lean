/-! ===== calls out of the class's methods ===== -/
section XCC
variable {p : Program} {l : Launch} {e : Env} {R : Room} {s : State} {m : MethodId} {args : Array Value} {below : List Frame} {meth : Method} {c : Code} {H : Heap} {locs : List Loc} {cells slots : Nat} {Q : State → Prop} {D : va_G} {a : Nat → ClassId} {x e0 : Nat} {A : Nat → Prop} {σ : XS} {cc : ByteArray} {nL : Nat} {pc : Nat} {ls : Array Slot} {rest st : List Value} {own C host : String} {idx : Nat} {y : MethodName} {bytes : ByteArray} {maxL n fr lo mc ms : Nat} {ret : Option FieldType} {av : List Value} {q b K : Nat}
theorem xP_pos (h : XP D a x e0 A σ H) : 0 < H.size := by
  have := (xP_top h).lt
  simp only at this
  omega
theorem xr_net {H0 : Heap} (C : Cx D a p s m args c cc nL own) (hX : HX D a x e0 A σ H0 H locs) : ∃ cellB : Cell, H[x]? = some cellB ∧ cellB.vm.isStatics = false ∧ s.vm.findClass RX10 = some cellB.cls := va_recv (D := D) (cl := vwCl) (tys := tyL a) (q := (RX10, TX10, 14)) (ci := 11) (q0 := 0) C.2 (va_at_single (xP_top hX.1)) rfl rfl
theorem xr_at {H0 : Heap} {nm : String} {T : u_T} {N : Nat} (C : Cx D a p s m args c cc nL own) (hX : HX D a x e0 A σ H0 H locs) (hk : xk σ q = K) (h0 : K ≠ 0) (hc : vwCl[K]? = some (nm, T, N)) : ∃ cellB : Cell, H[q]? = some cellB ∧ cellB.vm.isStatics = false ∧ s.vm.findClass nm = some cellB.cls := va_recv (D := D) (cl := vwCl) (tys := tyL a) (q := (nm, T, N)) (ci := K) (q0 := 0) C.2 (va_at_single (xP_at hX.1 hk h0)) hc rfl
theorem ox_init (C : Cx D a p s m args c cc nL own) (hl : Cond.methodLink own idx ⟨"java/lang/Object", "<init>", "()V"⟩ ∈ TB) (hsz : ls.size = nL) (hf : 1 ≤ R.frames) (hlo : (rest.map fun v => v.category).sum + 12 ≤ R.locals) (hdg : decode cc pc = .ok (.invokespecial idx, 3)) (kk : W p l e R s m args below meth c H locs cells slots Q (F0 m (pc + 3) ls rest)) : W p l e R s m args below meth c H locs cells slots Q (F0 m pc ls (.ref q :: rest)) :=
  W.objInit C.1.1 C.1.2.1 C.1.2.2.2.1 (C.1.2.2.2.2 _ hl) (C.1.2.2.2.2 _ q_56) (C.1.2.2.2.2 _ q_57) rfl (hsz.trans C.1.2.2.1.symm) rfl hdg hf (by show 2 * 0 + _ + _ ≤ _; omega) kk
/-- the nest's statics -/
def CWZ (own host : String) (idx : Nat) (y : MethodName) (bytes : ByteArray) (maxL : Nat) (ret : Option FieldType) (n : Nat) : Prop :=
  Cond.methodLinkNest own idx y host ∈ NBW ∧ Cond.static y ∈ TB ∧ Cond.initialized y.cls ∈ TB ∧ Cond.code y bytes maxL ret ∈ TB ∧ hdY y n
theorem cc_Z {v : Value} (C0 : Cx D a p s m args c cc nL own) (hE : EV D a e0 A s s.heap) (hK : K0 l y bytes maxL ret fr lo av (BK D a) v) (cw : CWZ own host idx y bytes maxL ret n) (hR : okR R maxL fr lo)
    (hst : st = av.reverse ++ rest) (hn : av.length = n) (hsz : ls.size = nL) (hW : (rest.map fun v => v.category).sum ≤ 8) (hc : cells ≤ R.cells) (hs : slots ≤ R.slots) (hdg : decode cc pc = .ok (.invokestatic idx, 3))
    (kk : W p l e R s m args below meth c H locs cells slots Q (F0 m (pc + 3) ls (v :: rest))) : W p l e R s m args below meth c H locs cells slots Q (F0 m pc ls st) := by
  obtain ⟨w1, w2, w3, w4, w5⟩ := cw
  have ht := C0.1.2.2.2.2
  have cw' : va_CN R s args own idx y host bytes maxL ret (.code y bytes maxL ret :: TB) { frames := fr, cells := 0, slots := 0, locals := lo } 0 0 n := va_cnB n ht (tb_cons w4 tb_self) rfl rfl rfl (hE.2.1 _ w1) (ht _ w3) w5 hR
  have hrun := va_runSN (mc := 0) (ms := 0) (R := R) (e := e) (below := below) (meth := meth) (H := H) (locs := locs) (cells := cells) (slots := slots) (g := F0 m pc ls st) (As := av) (rest := rest) C0.1 hK ⟨cw', ht _ w2, trivial⟩ ⟨fun z U g mk q => ⟨q.1, bk_blind g mk z q.2⟩, fun U hU hW => ⟨rfl, va_K.moved hW.alike C0.2⟩⟩ rfl hn hsz hst (lv_room hW) hdg ⟨hc, hs⟩
  intro T hT X
  obtain ⟨v', st₀, t, T', L, h0, X', hL, e1, e2, ⟨hv, hh⟩, stp⟩ := hrun T hT X
  cases hv
  obtain ⟨t2, a1, b1⟩ := kk T' (by rw [e1, hh, h0]) (Stand.forget X' (fun q h => (hL q h).elim))
  exact ⟨t2, stp t2 a1, b1⟩
/-- a method of the class's that changes nothing -/
theorem cc_X {v : Value} (C0 : Cx D a p s m args c cc nL own) (hE : EV D a e0 A s s.heap) (hX : HX D a x e0 A σ s.heap H locs) (hK : K0 l y bytes maxL ret fr lo (.ref b :: av) (BX D a x e0 A σ) v) (cw : CWV own C idx y bytes maxL ret n) (hR : okR R maxL fr lo) (hrc : ∃ cellB : Cell, H[b]? = some cellB ∧ cellB.vm.isStatics = false ∧ s.vm.findClass C = some cellB.cls)
    (hst : st = av.reverse ++ .ref b :: rest) (hn : av.length = n) (hsz : ls.size = nL) (hW : (rest.map fun v => v.category).sum ≤ 8) (hc : cells ≤ R.cells) (hs : slots ≤ R.slots) (hdg : decode cc pc = .ok (.invokevirtual idx, 3))
    (kk : W p l e R s m args below meth c H locs cells slots Q (F0 m (pc + 3) ls (v :: rest))) : W p l e R s m args below meth c H locs cells slots Q (F0 m pc ls st) :=
  call0V C0 hK cw hR hrc (fun U g mk z q => bx_blind g mk z q) (fun U hU hW => ⟨EV.at hE hX.2 hW hU, by rw [hU]; exact hX.1⟩) hst hn hsz hW hc hs hdg kk
/-- .. that changes the memory -/
theorem cc_XM {α : Type} {vf : α → Option Value} {F : Nat → α × XS} {N : Nat} (hN : N = H.size ∨ ∀ n, F n = F N) (C0 : Cx D a p s m args c cc nL own) (hE : EV D a e0 A s s.heap) (hX : HX D a x e0 A σ s.heap H locs) (hK : KX l D a x e0 A y bytes maxL ret fr lo mc ms (.ref b :: av) σ vf F) (cw : CWV own C idx y bytes maxL ret n) (hR : okR R maxL fr lo) (hrc : ∃ cellB : Cell, H[b]? = some cellB ∧ cellB.vm.isStatics = false ∧ s.vm.findClass C = some cellB.cls)
    (hst : st = av.reverse ++ .ref b :: rest) (hn : av.length = n) (hsz : ls.size = nL) (hW : (rest.map fun v => v.category).sum ≤ 8) (hc : cells + mc ≤ R.cells) (hs : slots + ms ≤ R.slots) (hdg : decode cc pc = .ok (.invokevirtual idx, 3))
    (kk : ∀ H locs, HX D a x e0 A (F N).2 s.heap H locs → W p l e R s m args below meth c H locs (cells + mc) (slots + ms) Q (F0 m (pc + 3) ls ((vf (F N).1).toList ++ rest))) : W p l e R s m args below meth c H locs cells slots Q (F0 m pc ls st) := by
  have hrun := va_runV (mc := mc) (ms := ms) (R := R) (e := e) (below := below) (meth := meth) (H := H) (locs := locs) (cells := cells) (slots := slots) (g := F0 m pc ls st) (As := av) (rest := rest) (b := b) C0.1 hK (cwv_of cw C0.1.2.2.2.2 hR) ⟨fun z U g mk q => ⟨q.1, bx_blind g mk z q.2⟩, hrc, fun U hU hW => ⟨rfl, EV.at hE hX.2 hW hU, by rw [hU]; exact hX.1⟩⟩ rfl hn hsz hst (lv_room hW) hdg ⟨hc, hs⟩
  intro T hT X
  obtain ⟨v', st₀, t, T', L, h0, X', hL, e1, e2, ⟨⟨hv, hP⟩, hF⟩, stp⟩ := hrun T hT X
  have hFN : F st₀.heap.size = F N := by
    rcases hN with h | h
    · rw [h, h0]
    · exact h _
  rw [hFN] at hv hP
  cases hv
  obtain ⟨t2, a1, b1⟩ := kk T'.heap (locs ++ L) ⟨by rw [e1]; exact hP, (vx_keep (A1 := A) h0 e1 hX.2 (fun q _ h => h) (fun q h => h) hL hF).2.2⟩ T' rfl X'
  exact ⟨t2, stp t2 a1, b1⟩
/-- a constructor -/
theorem cc_XI {α : Type} {vf : α → Option Value} {F : Nat → α × XS} {N : Nat} (hN : N = H.size ∨ ∀ n, F n = F N) (C0 : Cx D a p s m args c cc nL own) (hE : EV D a e0 A s s.heap) (hX : HX D a x e0 A σ s.heap H locs) (hK : KX l D a x e0 A y bytes maxL none fr lo mc ms (.ref b :: av) σ vf F) (cw : CWI own idx y bytes maxL n) (hR : okR R maxL fr lo)
    (hst : st = av.reverse ++ .ref b :: rest) (hn : av.length = n) (hsz : ls.size = nL) (hW : (rest.map fun v => v.category).sum ≤ 8) (hc : cells + mc ≤ R.cells) (hs : slots + ms ≤ R.slots) (hdg : decode cc pc = .ok (.invokespecial idx, 3))
    (kk : ∀ H locs, HX D a x e0 A (F N).2 s.heap H locs → W p l e R s m args below meth c H locs (cells + mc) (slots + ms) Q (F0 m (pc + 3) ls ((vf (F N).1).toList ++ rest))) : W p l e R s m args below meth c H locs cells slots Q (F0 m pc ls st) := by
  have hrun := va_runI (mc := mc) (ms := ms) (R := R) (e := e) (below := below) (meth := meth) (H := H) (locs := locs) (cells := cells) (slots := slots) (g := F0 m pc ls st) (As := av) (rest := rest) (b := b) C0.1 hK (cwi_of cw C0.1.2.2.2.2 hR) ⟨fun z U g mk q => ⟨q.1, bx_blind g mk z q.2⟩, fun U hU hW => ⟨rfl, EV.at hE hX.2 hW hU, by rw [hU]; exact hX.1⟩⟩ rfl hn hsz hst (lv_room hW) hdg ⟨hc, hs⟩
  intro T hT X
  obtain ⟨v', st₀, t, T', L, h0, X', hL, e1, e2, ⟨⟨hv, hP⟩, hF⟩, stp⟩ := hrun T hT X
  have hFN : F st₀.heap.size = F N := by
    rcases hN with h | h
    · rw [h, h0]
    · exact h _
  rw [hFN] at hv hP
  cases hv
  obtain ⟨t2, a1, b1⟩ := kk T'.heap (locs ++ L) ⟨by rw [e1]; exact hP, (vx_keep (A1 := A) h0 e1 hX.2 (fun q _ h => h) (fun q h => h) hL hF).2.2⟩ T' rfl X'
  exact ⟨t2, stp t2 a1, b1⟩
/-- what may throw, nothing changed -/
theorem cc_TS {α : Type} {vf : α → Option Value} {F : Except Nat α} {B : State → Prop} (C0 : Cx D a p s m args c cc nL own) (hK : KT0 l y bytes maxL ret fr lo mc ms av B vf F) (cw : CWS own idx y bytes maxL ret n) (hR : okR R maxL fr lo) (hbl : ∀ (U : State) (g : JFrame) (mk : MethodId) (x : Array Value), B U → B (U.calling g mk x)) (hB : ∀ U : State, U.heap = s.heap → s.WarmedH U.vm → B U)
    (hst : st = av.reverse ++ rest) (hn : av.length = n) (hsz : ls.size = nL) (hW : (rest.map fun v => v.category).sum ≤ 8) (hc : cells + mc ≤ R.cells) (hs : slots + ms ≤ R.slots) (hdg : decode cc pc = .ok (.invokestatic idx, 3))
    (kx : ∀ (k : Nat) (E : String) (ce : Cell) (q : Nat) (H1 : Heap), F = .error k → E = exN k → H1[q]? = some ce → ce.vm = .none → s.vm.findClass E = some ce.cls → s.heap.size ≤ H1.size → (∀ z, z < s.heap.size → H1[z]? = s.heap[z]?) → vx_W p l e R s m args below meth c H1 [] (cells + mc) (slots + ms) Q (F0 m pc ls rest) q)
    (kk : ∀ v, F = .ok v → W p l e R s m args below meth c s.heap [] (cells + mc) (slots + ms) Q (F0 m (pc + 3) ls ((vf v).toList ++ rest))) : W p l e R s m args below meth c s.heap [] cells slots Q (F0 m pc ls st) := by
  have hrun := vx_runS (mc := mc) (ms := ms) (R := R) (e := e) (below := below) (meth := meth) (H := s.heap) (locs := []) (cells := cells) (slots := slots) (g := F0 m pc ls st) (As := av) (rest := rest) C0.1 hK (cws_of cw C0.1.2.2.2.2 hR) ⟨fun x U g mk q => ⟨q.1, hbl U g mk x q.2⟩, fun U hU hW => ⟨rfl, hB U hU hW⟩⟩ rfl hn hsz hst (lv_room hW) hdg ⟨hc, hs⟩
  intro T hT X
  rcases hrun T hT X with ⟨v', st₀, t, T', L, h0, X', hL, e1, e2, ⟨v, hF, hv, hh⟩, stp⟩ | ⟨q, st₀, t, T', L, E, ce, h0, X', hL, e1, e2, ⟨k, hF, hE1, hz, hkp⟩, hce, hcv, hcl, stp⟩
  · cases hv
    obtain ⟨t2, a1, b1⟩ := kk v hF T' (by rw [e1, hh, h0]) (Stand.forget X' (fun q h => (hL q (by simpa using h)).elim))
    exact ⟨t2, stp t2 a1, b1⟩
  · obtain ⟨t2, a1, b1⟩ := kx k E ce q T'.heap (exE_er hF) hE1 (by rw [e1]; exact hce) hcv hcl (by rw [e1, ← h0]; exact hz) (by rw [e1, ← h0]; exact hkp) T' rfl (Stand.forget X' (fun q h => (hL q (by simpa using h)).elim))
    exact ⟨t2, stp.trans a1, b1⟩
theorem cc_TV {α : Type} {vf : α → Option Value} {F : Except Nat α} (C0 : Cx D a p s m args c cc nL own) (hE : EV D a e0 A s s.heap) (hX : HX D a x e0 A σ s.heap s.heap []) (hK : KT0 l y bytes maxL ret fr lo mc ms (.ref b :: av) (BX D a x e0 A σ) vf F) (cw : CWV own C idx y bytes maxL ret n) (hR : okR R maxL fr lo) (hrc : ∃ cellB : Cell, s.heap[b]? = some cellB ∧ cellB.vm.isStatics = false ∧ s.vm.findClass C = some cellB.cls)
    (hst : st = av.reverse ++ .ref b :: rest) (hn : av.length = n) (hsz : ls.size = nL) (hW : (rest.map fun v => v.category).sum ≤ 8) (hc : cells + mc ≤ R.cells) (hs : slots + ms ≤ R.slots) (hdg : decode cc pc = .ok (.invokevirtual idx, 3))
    (kx : ∀ (k : Nat) (E : String) (ce : Cell) (q : Nat) (H1 : Heap), F = .error k → E = exN k → H1[q]? = some ce → ce.vm = .none → s.vm.findClass E = some ce.cls → s.heap.size ≤ H1.size → (∀ z, z < s.heap.size → H1[z]? = s.heap[z]?) → vx_W p l e R s m args below meth c H1 [] (cells + mc) (slots + ms) Q (F0 m pc ls rest) q)
    (kk : ∀ v, F = .ok v → W p l e R s m args below meth c s.heap [] (cells + mc) (slots + ms) Q (F0 m (pc + 3) ls ((vf v).toList ++ rest))) : W p l e R s m args below meth c s.heap [] cells slots Q (F0 m pc ls st) := by
  have hrun := vx_runV (mc := mc) (ms := ms) (R := R) (e := e) (below := below) (meth := meth) (H := s.heap) (locs := []) (cells := cells) (slots := slots) (g := F0 m pc ls st) (As := av) (rest := rest) (b := b) C0.1 hK (cwv_of cw C0.1.2.2.2.2 hR) ⟨fun x U g mk q => ⟨q.1, bx_blind g mk x q.2⟩, hrc, fun U hU hW => ⟨rfl, EV.at hE hX.2 hW hU, by rw [hU]; exact hX.1⟩⟩ rfl hn hsz hst (lv_room hW) hdg ⟨hc, hs⟩
  intro T hT X
  rcases hrun T hT X with ⟨v', st₀, t, T', L, h0, X', hL, e1, e2, ⟨v, hF, hv, hh⟩, stp⟩ | ⟨q, st₀, t, T', L, E, ce, h0, X', hL, e1, e2, ⟨k, hF, hE1, hz, hkp⟩, hce, hcv, hcl, stp⟩
  · cases hv
    obtain ⟨t2, a1, b1⟩ := kk v hF T' (by rw [e1, hh, h0]) (Stand.forget X' (fun q h => (hL q (by simpa using h)).elim))
    exact ⟨t2, stp t2 a1, b1⟩
  · obtain ⟨t2, a1, b1⟩ := kx k E ce q T'.heap (exE_er hF) hE1 (by rw [e1]; exact hce) hcv hcl (by rw [e1, ← h0]; exact hz) (by rw [e1, ← h0]; exact hkp) T' rfl (Stand.forget X' (fun q h => (hL q (by simpa using h)).elim))
    exact ⟨t2, stp.trans a1, b1⟩
theorem be_blind {U : State} (g : JFrame) (mk : MethodId) (z : Array Value) (h : BE D a e0 A U) : BE D a e0 A (U.calling g mk z) := EV.calling g mk z h
end XCC

