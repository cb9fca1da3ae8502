/-! ===== references that may be null; comparisons ===== -/
section XREFS
variable {p : Program} {l : Launch} {e : Env} {R : Room} {s : State} {m : MethodId} {args : Array Value} {below : List Frame} {meth : Method} {c : Code} {H : Heap} {locs : List Loc} {cells slots : Nat} {Q : State → Prop} {cc : ByteArray} {pc : Nat} {ls : Array Slot} {rest : List Value} {q : Nat}
theorem toRef (h : q ≠ 0) (k : W p l e R s m args below meth c H locs cells slots Q (F0 m pc ls (.ref q :: rest))) : W p l e R s m args below meth c H locs cells slots Q (F0 m pc ls (rv q :: rest)) := by rw [rv_s h]; exact k
theorem fromRef (h : q ≠ 0) (k : W p l e R s m args below meth c H locs cells slots Q (F0 m pc ls (rv q :: rest))) : W p l e R s m args below meth c H locs cells slots Q (F0 m pc ls (.ref q :: rest)) := by rw [rv_s h] at k; exact k
theorem lx_null (hx : p.tables.exec = Jvm.exec) (hb : c.code = cc) (hdg : decode cc pc = .ok (.aconst_null, 1)) (k : W p l e R s m args below meth c H locs cells slots Q (F0 m (pc + 1) ls (rv 0 :: rest))) : W p l e R s m args below meth c H locs cells slots Q (F0 m pc ls rest) := lv_null hx hb hdg k
theorem lx_aload_n (hx : p.tables.exec = Jvm.exec) (hb : c.code = cc) {k : Fin 4} {i : Nat} (hdg : decode cc pc = .ok (.aload_n k, 1)) (hi : (k : Nat) = i) (hl : ls[i]? = some (.val (rv q))) (kk : W p l e R s m args below meth c H locs cells slots Q (F0 m (pc + 1) ls (rv q :: rest))) : W p l e R s m args below meth c H locs cells slots Q (F0 m pc ls rest) := by
  by_cases h : q = 0
  · subst h; exact lv_aload_nN hx hb hdg hi hl kk
  · rw [rv_s h] at hl kk; exact lv_aload_n hx hb hdg hi hl kk
theorem lx_aload (hx : p.tables.exec = Jvm.exec) (hb : c.code = cc) {i : Nat} (hdg : decode cc pc = .ok (.aload i, 2)) (hl : ls[i]? = some (.val (rv q))) (kk : W p l e R s m args below meth c H locs cells slots Q (F0 m (pc + 2) ls (rv q :: rest))) : W p l e R s m args below meth c H locs cells slots Q (F0 m pc ls rest) := by
  by_cases h : q = 0
  · subst h; exact lv_aloadN hx hb hdg hl kk
  · rw [rv_s h] at hl kk; exact lv_aload hx hb hdg hl kk
theorem lx_astore_n (hx : p.tables.exec = Jvm.exec) (hb : c.code = cc) {k : Fin 4} {i nL : Nat} {lv lv' : List (Nat × Value)} (hdg : decode cc pc = .ok (.astore_n k, 1)) (hi : (k : Nat) = i) (h : lv_has ls nL lv) (hn : i < nL) (hl : (i, rv q) :: lv.filter (fun q => !(q.1 == i) && !(q.1 + 1 == i && q.2.category == 2)) = lv') (kk : ∀ ls' : Array Slot, lv_has ls' nL lv' → W p l e R s m args below meth c H locs cells slots Q (F0 m (pc + 1) ls' rest)) : W p l e R s m args below meth c H locs cells slots Q (F0 m pc ls (rv q :: rest)) := by
  by_cases hq : q = 0
  · subst hq; exact lv_astore_nN hx hb hdg hi h hn hl kk
  · rw [rv_s hq] at hl ⊢; exact lv_astore_n hx hb hdg hi h hn hl kk
theorem lx_astore (hx : p.tables.exec = Jvm.exec) (hb : c.code = cc) {i nL : Nat} {lv lv' : List (Nat × Value)} (hdg : decode cc pc = .ok (.astore i, 2)) (h : lv_has ls nL lv) (hn : i < nL) (hl : (i, rv q) :: lv.filter (fun q => !(q.1 == i) && !(q.1 + 1 == i && q.2.category == 2)) = lv') (kk : ∀ ls' : Array Slot, lv_has ls' nL lv' → W p l e R s m args below meth c H locs cells slots Q (F0 m (pc + 2) ls' rest)) : W p l e R s m args below meth c H locs cells slots Q (F0 m pc ls (rv q :: rest)) := by
  by_cases hq : q = 0
  · subst hq; exact lv_astoreN hx hb hdg h hn hl kk
  · rw [rv_s hq] at hl ⊢; exact lv_astore hx hb hdg h hn hl kk
theorem lx_ifnull (hx : p.tables.exec = Jvm.exec) (hb : c.code = cc) {off : Int} {tgt : Nat} (hdg : decode cc pc = .ok (.ifnull off, 3)) (ht : (pc : Int) + off = (tgt : Int)) (kt : q = 0 → W p l e R s m args below meth c H locs cells slots Q (F0 m tgt ls rest)) (kf : ¬ q = 0 → W p l e R s m args below meth c H locs cells slots Q (F0 m (pc + 3) ls rest)) : W p l e R s m args below meth c H locs cells slots Q (F0 m pc ls (rv q :: rest)) := by
  by_cases hq : q = 0
  · subst hq; exact lv_ifnullN hx hb hdg ht (kt rfl)
  · rw [rv_s hq]; exact lv_ifnull hx hb hdg (kf hq)
theorem lx_ifnonnull (hx : p.tables.exec = Jvm.exec) (hb : c.code = cc) {off : Int} {tgt : Nat} (hdg : decode cc pc = .ok (.ifnonnull off, 3)) (ht : (pc : Int) + off = (tgt : Int)) (kt : ¬ q = 0 → W p l e R s m args below meth c H locs cells slots Q (F0 m tgt ls rest)) (kf : q = 0 → W p l e R s m args below meth c H locs cells slots Q (F0 m (pc + 3) ls rest)) : W p l e R s m args below meth c H locs cells slots Q (F0 m pc ls (rv q :: rest)) := by
  by_cases hq : q = 0
  · subst hq; exact lv_ifnonnullN hx hb hdg (kf rfl)
  · rw [rv_s hq]; exact lv_ifnonnull hx hb hdg ht (kt hq)
theorem lx_acmp_ne (hx : p.tables.exec = Jvm.exec) (hb : c.code = cc) {x y : Nat} {off : Int} {tgt : Nat} (hdg : decode cc pc = .ok (.if_acmp .ne off, 3)) (ht : (pc : Int) + off = (tgt : Int)) (kt : ¬ x = y → W p l e R s m args below meth c H locs cells slots Q (F0 m tgt ls rest)) (kf : x = y → W p l e R s m args below meth c H locs cells slots Q (F0 m (pc + 3) ls rest)) : W p l e R s m args below meth c H locs cells slots Q (F0 m pc ls (.ref y :: .ref x :: rest)) :=
  lv_acmp_ne (rx := some x) (ry := some y) hx hb hdg ht (fun h => kt (fun e => h (by rw [e]))) (fun h => kf (Option.some.inj h))
theorem lx_acmp_eq (hx : p.tables.exec = Jvm.exec) (hb : c.code = cc) {x y : Nat} {off : Int} {tgt : Nat} (hdg : decode cc pc = .ok (.if_acmp .eq off, 3)) (ht : (pc : Int) + off = (tgt : Int)) (kt : x = y → W p l e R s m args below meth c H locs cells slots Q (F0 m tgt ls rest)) (kf : ¬ x = y → W p l e R s m args below meth c H locs cells slots Q (F0 m (pc + 3) ls rest)) : W p l e R s m args below meth c H locs cells slots Q (F0 m pc ls (.ref y :: .ref x :: rest)) :=
  lv_acmp_eq (rx := some x) (ry := some y) hx hb hdg ht (fun h => kt (Option.some.inj h)) (fun h => kf (fun e => h (by rw [e])))
end XREFS
/-! ===== what all methods of the class know: the classes, the words that the tables alone decide, the statics ===== -/
def NBW : List Cond := [Cond.methodLinkNest RX10 31 yX2_init "FireNet", Cond.methodLinkNest RX10 47 yX3_init "FireNet", Cond.methodLinkNest RX10 70 yX4_init "FireNet", Cond.declares ⟨RJxbd725, "add", "(Ljava/lang/Object;)Z"⟩, Cond.castable RJx4a65c RJxbd725, Cond.castable "java/lang/IllegalArgumentException" "java/lang/IllegalArgumentException", Cond.declares ⟨"java/lang/RuntimeException", "<init>", "()V"⟩, Cond.declares ⟨"java/lang/RuntimeException", "<init>", "(Ljava/lang/String;)V"⟩, Cond.declares ⟨"java/lang/Exception", "<init>", "()V"⟩, Cond.declares ⟨"java/lang/Exception", "<init>", "(Ljava/lang/String;)V"⟩, Cond.declares ⟨"java/lang/Throwable", "<init>", "()V"⟩, Cond.declares ⟨"java/lang/Throwable", "<init>", "(Ljava/lang/String;)V"⟩, Cond.declares ⟨RJxbd725, "size", "()I"⟩, Cond.castable "java/lang/IllegalStateException" "java/lang/IllegalStateException", Cond.castable "java/lang/IndexOutOfBoundsException" "java/lang/IndexOutOfBoundsException", Cond.declares ⟨RJxbd725, "get", "(I)Ljava/lang/Object;"⟩, Cond.methodLinkNest RX4 64 yX10_divided "FireNet", Cond.methodLinkNest RX4 76 yX10_rootOf "FireNet", Cond.castable RX5 "java/lang/Object", Cond.castable RX10 "java/lang/Object", Cond.castable RJx4a65c "java/lang/Object", Cond.castable RX2 "java/lang/Object", Cond.castable RX3 "java/lang/Object", Cond.castable RX4 "java/lang/Object", Cond.castable "java/lang/IllegalArgumentException" "java/lang/Object", Cond.castable "java/lang/IllegalStateException" "java/lang/Object", Cond.castable RX0 "java/lang/Object", Cond.castable "java/lang/IndexOutOfBoundsException" "java/lang/Object", Cond.castable RX6 "java/lang/Object", Cond.castable RX9 "java/lang/Object", Cond.castable RX8 "java/lang/Object", Cond.castable RX7 "java/lang/Object", Cond.castable "java/lang/Throwable" "java/lang/Object", Cond.castable RJ0 "java/lang/Object", Cond.declares ⟨"java/lang/Object", "getClass", "()Ljava/lang/Class;"⟩, Cond.castable "[LFireNet$Rule;" "java/lang/Object", Cond.castable "[I" "java/lang/Object", Cond.castable "[Ljava/lang/Object;" "java/lang/Object", Cond.castable "[B" "java/lang/Object", Cond.castable "[J" "java/lang/Object"]
def STRW : List (String × Nat × String) := [(RX10, 354, "an argument is out of its range"), (RX10, 91, "there are as many cameras as there may be"), (RX10, 360, "there is no such camera"), (RX10, 138, "there were clouds over the camera in that night"), (RX10, 356, "both of a direction are 0"), (RX10, 148, "no sighting was begun"), (RX10, 157, "clouds were told since the sighting was begun"), (RX10, 159, "there are as many sightings as there may be"), (RX10, 219, "winds of as many nights were told as may be"), (RX10, 368, "there is no such fireball"), (RX10, 231, "there were as many walks as there may be"), (RX10, 247, "there are as many stones as there may be"), (RX10, 370, "there is no such stone"), (RX10, 363, "there is no such sighting")]
def yL_size : MethodName := ⟨RJxbd725, "size", "()I"⟩
def yL_get : MethodName := ⟨RJxbd725, "get", "(I)Ljava/lang/Object;"⟩
def yL_add : MethodName := ⟨RJxbd725, "add", "(Ljava/lang/Object;)Z"⟩
def EV (D : va_G) (a : Nat → ClassId) (e0 : Nat) (A : Nat → Prop) (U : State) (H : Heap) : Prop :=
  va_K D vwCl (tyL a) U ∧ (∀ w ∈ NBW, va_Nw w U) ∧ (∀ r ∈ STRW, ∃ sa, vk_R r.1 r.2.1 r.2.2 sa U) ∧ vx_Zq Bundle.tN "UNASSIGNED_STACK" Bundle.steD A U H ∧ vx_Zq Bundle.tN "SUPPRESSED_SENTINEL" Bundle.listD A U H ∧ (∀ q, H.size ≤ q → A q) ∧
  (va_Fw RJx4a65c yL_size yJx4a65c_size_8abf5 U ∧ va_Fw RJx4a65c yL_get yJx4a65c_get_915e3 U ∧ va_Fw RJx4a65c yL_add yJx4a65c_add_9ea2d U) ∧
  va_Z RJx4a65c "DEFAULTCAPACITY_EMPTY_ELEMENTDATA" "[Ljava/lang/Object;" (.ref e0) A U H ∧ (∃ f : Nat → Value, va_T (.object "java/lang/Object") e0 0 f A U H) ∧ (∃ mi, va_Mi "[Ljava/lang/Object;" mi U) ∧ va_Dc U ∧ va_AO "java/lang/Object" U
theorem nbw_warm {w : Cond} (hw : w ∈ NBW) {s U : State} (hW : s.WarmedH U.vm) (h : va_Nw w s) : va_Nw w U := by
  have key : ∀ w ∈ NBW, (∃ C T, w = .castable C T) ∨ (∃ a i x h, w = .methodLinkNest a i x h) ∨ ∃ x, w = .declares x := by
    unfold NBW
    simp
  rcases key w hw with ⟨C, T, rfl⟩ | ⟨a, i, x, h', rfl⟩ | ⟨x, rfl⟩
  · exact va_Nw.warmC hW h
  · exact va_Nw.warmM hW h
  · exact va_Nw.warmD hW h
theorem EV.at {D : va_G} {a : Nat → ClassId} {e0 : Nat} {A : Nat → Prop} {s U : State} {H : Heap} {locs : List Loc} (h : EV D a e0 A s s.heap) (hS : va_S A s.heap H locs) (hW : s.WarmedH U.vm) (hU : U.heap = H) : EV D a e0 A U U.heap := by
  obtain ⟨h1, h2, h3, h4, h5, h6, h7, h8, ⟨f, h9⟩, ⟨mi, h10⟩, h11, h12⟩ := h
  rw [hU]
  exact ⟨va_K.moved hW.alike h1, fun w hw => nbw_warm hw hW (h2 w hw), fun r hr => (h3 r hr).elim fun sa q => ⟨sa, q.warm hW⟩, vx_Zq.moved hW.alike (h4.kept hS.2.1), vx_Zq.moved hW.alike (h5.kept hS.2.1), fun q hq => h6 q (Nat.le_trans hS.1 hq), ⟨va_Fw.moved (by decide +kernel) hW.alike h7.1, va_Fw.moved (by decide +kernel) hW.alike h7.2.1, va_Fw.moved (by decide +kernel) hW.alike h7.2.2⟩, va_Z.moved hW.alike (h8.kept hS.2.1), ⟨f, va_T.moved hW.alike (h9.kept hS.2.1)⟩, ⟨mi, va_Mi.moved hW.alike h10⟩, va_Dc.moved hW.alike h11, va_AO.moved hW.alike h12⟩
theorem EV.calling {D : va_G} {a : Nat → ClassId} {e0 : Nat} {A : Nat → Prop} {U : State} (g : JFrame) (mk : MethodId) (x : Array Value) (h : EV D a e0 A U U.heap) : EV D a e0 A (U.calling g mk x) (U.calling g mk x).heap :=
  EV.at (s := U) (U := U.calling g mk x) (locs := []) h va_S.rf (State.WarmedH.refl U) rfl
abbrev BX (D : va_G) (a : Nat → ClassId) (x e0 : Nat) (A : Nat → Prop) (σ : XS) (U : State) : Prop := EV D a e0 A U U.heap ∧ XP D a x e0 A σ U.heap
abbrev BE (D : va_G) (a : Nat → ClassId) (e0 : Nat) (A : Nat → Prop) (U : State) : Prop := EV D a e0 A U U.heap
theorem bx_blind {D : va_G} {a : Nat → ClassId} {x e0 : Nat} {A : Nat → Prop} {σ : XS} {U : State} (g : JFrame) (mk : MethodId) (z : Array Value) (h : BX D a x e0 A σ U) : BX D a x e0 A σ (U.calling g mk z) := ⟨h.1.calling g mk z, h.2⟩
theorem XP.ext {D : va_G} {a : Nat → ClassId} {x e0 : Nat} {A : Nat → Prop} {σ : XS} {H H1 : Heap} (h : XP D a x e0 A σ H) (hk : ∀ q, q < H.size → H1[q]? = H[q]?) : XP D a x e0 A σ H1 := by
  obtain ⟨Mp, ow, hM, hs⟩ := h
  exact ⟨Mp, ow, fun q en hq => ⟨(hM q en hq).1.kept (hk q (hM q en hq).1.lt), (hM q en hq).2⟩, hs⟩
/-! ===== contracts of the class's methods ===== -/
def exN : Nat → String := fun k => match k with
  | 1 => "java/lang/IllegalArgumentException"
  | 2 => "java/lang/IllegalStateException"
  | _ => "java/lang/IndexOutOfBoundsException"
section XCON
variable {p : Program} {l : Launch} {e : Env} {R : Room} {s : State} {m : MethodId} {args : Array Value} {below : List Frame} {meth : Method} {c : Code} {H : Heap} {locs : List Loc} {cells slots : Nat} {Q : State → Prop} {D : va_G} {a : Nat → ClassId} {x e0 : Nat} {A : Nat → Prop} {σ : XS} {cc : ByteArray} {nL : Nat} {pc : Nat} {ls : Array Slot} {rest st : List Value} {own C : String} {idx : Nat} {y : MethodName} {bytes : ByteArray} {maxL n fr lo mc ms : Nat} {ret : Option FieldType} {av : List Value}
/-- no throw, a change of the memory, perhaps a new thing (its address: the heap's size at the start) -/
def KX {α : Type} (l : Launch) (D : va_G) (a : Nat → ClassId) (x e0 : Nat) (A : Nat → Prop) (y : MethodName) (bytes : ByteArray) (maxL : Nat) (ret : Option FieldType) (fr lo mc ms : Nat) (av : List Value) (σ : XS) (vf : α → Option Value) (F : Nat → α × XS) : Prop :=
  Met l y (.code y bytes maxL ret :: TB) { frames := fr, cells := mc, slots := ms, locals := lo } (va_Pc av (BX D a x e0 A σ)) (fun _ st oc t => (oc = .returned (vf (F st.heap.size).1) ∧ XP D a x e0 A (F st.heap.size).2 t.heap) ∧ va_F A st t) mc ms A
/-- a throw, or an answer; nothing that was there changes -/
def XC0 (F : Option Nat) : String → State → State → Prop := fun E st t => ∃ k, F = some k ∧ E = exN k ∧ st.heap.size ≤ t.heap.size ∧ ∀ q, q < st.heap.size → t.heap[q]? = st.heap[q]?
def exE {α : Type} (t : Except Nat α) : Option Nat := match t with
  | .error k => some k
  | .ok _ => none
theorem exE_er {α : Type} {t : Except Nat α} {k : Nat} (h : exE t = some k) : t = .error k := by
  cases t with
  | error j => cases h; rfl
  | ok v => cases h
def KT0 {α : Type} (l : Launch) (y : MethodName) (bytes : ByteArray) (maxL : Nat) (ret : Option FieldType) (fr lo mc ms : Nat) (av : List Value) (B : State → Prop) (vf : α → Option Value) (F : Except Nat α) : Prop :=
  vx_Met l y (.code y bytes maxL ret :: TB) { frames := fr, cells := mc, slots := ms, locals := lo } (va_Pc av B) (fun _ st oc t => ∃ v, F = .ok v ∧ oc = .returned (vf v) ∧ t.heap = st.heap) (XC0 (exE F)) mc ms (fun _ => False)
/-- a throw with nothing changed, or an answer and a change -/
def KTm {α : Type} (l : Launch) (D : va_G) (a : Nat → ClassId) (x e0 : Nat) (A : Nat → Prop) (y : MethodName) (bytes : ByteArray) (maxL : Nat) (ret : Option FieldType) (fr lo mc ms : Nat) (av : List Value) (σ : XS) (vf : α → Option Value) (F : Nat → Except Nat (α × XS)) : Prop :=
  vx_Met l y (.code y bytes maxL ret :: TB) { frames := fr, cells := mc, slots := ms, locals := lo } (va_Pc av (BX D a x e0 A σ)) (fun _ st oc t => (∃ v σ', F st.heap.size = .ok (v, σ') ∧ oc = .returned (vf v) ∧ XP D a x e0 A σ' t.heap) ∧ va_F A st t) (fun E st t => XC0 (exE (F st.heap.size)) E st t) mc ms A
/-! what a throw asks of the tables -/
def exNames : List String := ["java/lang/RuntimeException", "java/lang/Exception"]
def THR (ik ic : Nat) (cls : String) : Prop := Cond.classLink RX10 ik cls ∈ TB ∧ Cond.initialized cls ∈ TB ∧ (∀ w ∈ (vx_atS RX10 ic cls exNames).filter goodWord, w ∈ lw_tbl) ∧ (∀ w ∈ (vx_atS RX10 ic cls exNames).filter (fun w => !goodWord w), w ∈ NBW) ∧ (∀ w ∈ vx_atS RX10 ic cls exNames, vx_ot w = true) ∧ Bundle.fit cls = true
theorem thr_287 : THR 287 291 "java/lang/IllegalArgumentException" := ⟨q_290, q_40, by decide +kernel, by decide +kernel, by decide +kernel, by decide +kernel⟩
theorem thr_89 : THR 89 93 "java/lang/IllegalStateException" := ⟨q_367, q_41, by decide +kernel, by decide +kernel, by decide +kernel, by decide +kernel⟩
theorem thr_358 : THR 358 362 "java/lang/IndexOutOfBoundsException" := ⟨q_411, q_43, by decide +kernel, by decide +kernel, by decide +kernel, by decide +kernel⟩
theorem thr_hat {ik ic : Nat} {cls : String} (h : THR ik ic cls) (hts : ∀ w ∈ TB, w.before args s = true) (hN : ∀ w ∈ NBW, va_Nw w s) : ∀ w ∈ vx_atS RX10 ic cls exNames, w.before args s = true :=
  vx_hat (B := NBW) (fun w hw => hts w (List.mem_filter.mpr ⟨h.2.2.1 w hw, (List.mem_filter.mp hw).2⟩)) h.2.2.2.1 (fun w hw => va_Nw.use (by
    have key : ∀ w ∈ NBW, w.onTables = true := by decide +kernel
    exact key w hw) (hN w hw))
theorem thr_ot {ik ic : Nat} {cls : String} (h : THR ik ic cls) : ∀ w ∈ Cond.classLink RX10 ik cls :: Cond.initialized cls :: vx_atS RX10 ic cls exNames, vx_ot w = true := by
  intro w hw
  rcases List.mem_cons.mp hw with rfl | hw
  · rfl
  · rcases List.mem_cons.mp hw with rfl | hw
    · rfl
    · exact h.2.2.2.2.1 w hw
theorem rv_cases (v : Nat) : rv v = .null ∨ ∃ a, rv v = .ref a := by unfold rv; split <;> simp
theorem goXi {F : Nat → Int32 × XS} (hy : plainName y.cls = true) (hlen : (lg_sl av).length ≤ maxL) (body : ∀ (p : Program) (e : Env) (s : State) (m : MethodId) (args : Array Value) (below : List Frame) (meth : Method) (c : Code) (ls : Array Slot) (R : Room) (Q : State → Prop) (nq : Nat), R.frames = fr → R.locals = lo → R.cells = mc → R.slots = ms → nq = s.heap.size → Cx D a p s m args c bytes maxL y.cls → EV D a e0 A s s.heap → HX D a x e0 A σ s.heap s.heap [] → lv_has ls maxL (lv_args 0 av) → (∀ (pc : Nat) (ls : Array Slot) (H : Heap) (locs : List Loc) (σ' : XS) (v : Int32), HX D a x e0 A σ' s.heap H locs → decode bytes pc = .ok (.ireturn, 1) → F nq = (v, σ') → W p l e R s m args below meth c H locs mc ms Q (F0 m pc ls [.int v])) → W p l e R s m args below meth c s.heap [] 0 0 Q (F0 m 0 ls [])) : KX l D a x e0 A y bytes maxL (some .int) fr lo mc ms av σ (fun v => some (.int v)) F := by
  refine Met.ofW (cc := bytes) (maxL := maxL) (ret := (some .int)) hy rfl ?_
  intro p e s m args below meth c s₁ B' hml hv
  obtain ⟨rfl, hE, hP⟩ := hv
  have C : Cx D a p s m av.toArray c bytes maxL y.cls := ⟨⟨B'.exec, B'.bytes, hml, findClass_of_methodNamed B'.named, fun w h => atoms_spec (ws := .code y bytes maxL (some .int) :: TB) B'.pre w (List.mem_cons_of_mem _ h)⟩, hE.1⟩
  have hl := lv_entry av (n := maxL) hlen
  have hr := B'.returns
  have hk := B'.notSynchronized
  rw [lg_entry_eq]
  refine body p e s m _ below meth c _ _ _ s.heap.size rfl rfl rfl rfl rfl C hE ⟨hP, va_S.rf⟩ hl ?_
  intro pc ls H locs σ' v hM hdg hf
  exact W.iret C.1.1 C.1.2.1 hr (fun t ht _ => ⟨⟨by rw [hf], by rw [ht, hf]; exact hM.1⟩, hM.2.F ht⟩) hM.2.2.2 hdg hk
theorem goTi {B : State → Prop} (hBE : ∀ U, B U → BE D a e0 A U) {F : Except Nat Int32} (hfl : l.stackTraces = false) (hy10 : y.cls = RX10) (hy : plainName y.cls = true) (hlen : (lg_sl av).length ≤ maxL) (body : ∀ (p : Program) (e : Env) (s : State) (m : MethodId) (args : Array Value) (below : List Frame) (meth : Method) (c : Code) (ls : Array Slot) (R : Room) (Q : State → Prop), R.frames = fr → R.locals = lo → R.cells = mc → R.slots = ms → Cx D a p s m args c bytes maxL y.cls → B s → lv_has ls maxL (lv_args 0 av) → (∀ (pc : Nat) (ls : Array Slot) (v : Int32), decode bytes pc = .ok (.ireturn, 1) → F = .ok v → W p l e R s m args below meth c s.heap [] mc ms Q (F0 m pc ls [.int v])) → (∀ {pc : Nat} {ls : Array Slot} {rest : List Value} {cells slots : Nat} {k ik is ic sa : Nat} {text : String}, THR ik ic (exN k) → vk_R RX10 is text sa s → ls.size = c.maxLocals → decode bytes pc = .ok (.new ik, 3) → decode bytes (pc + 3) = .ok (.dup, 1) → (decode bytes (pc + 4) = .ok (.ldc is, 2) ∧ decode bytes (pc + 6) = .ok (.invokespecial ic, 3) ∧ decode bytes (pc + 9) = .ok (.athrow, 1) ∨ decode bytes (pc + 4) = .ok (.ldc_w is, 3) ∧ decode bytes (pc + 7) = .ok (.invokespecial ic, 3) ∧ decode bytes (pc + 10) = .ok (.athrow, 1)) → 5 < R.frames → (rest.map fun v => v.category).sum + 82 ≤ R.locals → cells + 1 ≤ mc → slots + 6 ≤ ms → F = .error k → W p l e R s m args below meth c s.heap [] cells slots Q (F0 m pc ls rest)) → (∀ {pc : Nat} {ls : Array Slot} {rest : List Value} {cells slots : Nat} {k : Nat} {E : String} {ce : Cell} {q : Nat} {H1 : Heap}, E = exN k → H1[q]? = some ce → ce.vm = .none → s.vm.findClass E = some ce.cls → s.heap.size ≤ H1.size → (∀ z, z < s.heap.size → H1[z]? = s.heap[z]?) → cells ≤ mc → slots ≤ ms → F = .error k → vx_W p l e R s m args below meth c H1 [] cells slots Q (F0 m pc ls rest) q) → W p l e R s m args below meth c s.heap [] 0 0 Q (F0 m 0 ls [])) : KT0 l y bytes maxL (some .int) fr lo mc ms av B (fun v => some (.int v)) F := by
  refine vx_ofW (cc := bytes) (maxL := maxL) (ret := (some .int)) hy rfl ?_
  intro p e s m args below meth c s₁ B' hml ht hv
  obtain ⟨rfl, hE⟩ := hv
  have hl := lv_entry av (n := maxL) hlen
  have hr := B'.returns
  have hk := B'.notSynchronized
  rw [lg_entry_eq]
  have hB := hE
  have hE := hBE s hE
  have C : Cx D a p s m av.toArray c bytes maxL y.cls := ⟨⟨B'.exec, B'.bytes, hml, findClass_of_methodNamed B'.named, fun w h => atoms_spec (ws := .code y bytes maxL (some .int) :: TB) B'.pre w (List.mem_cons_of_mem _ h)⟩, hE.1⟩
  have hts := C.1.2.2.2.2
  have hown : s.vm.findClass RX10 = some m.cls := hy10 ▸ C.1.2.2.2.1
  refine body p e s m _ below meth c _ _ _ rfl rfl rfl rfl C hB hl ?_ ?_ ?_
  · intro pc ls v hdg hf
    exact vx_ret (W.iret C.1.1 C.1.2.1 hr (fun t ht _ => ⟨_, hf, rfl, ht⟩) (fun _ h => nomatch h) hdg hk)
  · intro pc ls rest cells slots k ik is ic sa text hT hsr hsz d0 d3 hd hfr hlo hc hs hF
    rcases hd with ⟨d4, d6, d9⟩ | ⟨d4, d7, d10⟩
    · exact vx_throwS (names := exNames) (A := A) C.1.1 C.1.2.1 hfl hown hT.2.2.2.2.2 (by decide +kernel) (hts _ hT.1) (hts _ hT.2.1) hsr (thr_hat hT hts hE.2.1) (thr_ot hT) hE.2.2.2.1 hE.2.2.2.2.1 va_S.rf hsz d0 d3 d4 d6 d9 (fun z hz => (ht z hz).elim) (by show 2 + 3 < _; exact hfr) (by show _ + (13 * (2 + 1) + 43) ≤ _; exact hlo) (Nat.le_trans hc (Nat.le_refl _)) (Nat.le_trans hs (Nat.le_refl _)) hk (fun t _ hz hq => ⟨_, by rw [hF]; rfl, rfl, hz, hq⟩) (fun _ h => nomatch h) hc hs
    · exact vx_throwSW (names := exNames) (A := A) C.1.1 C.1.2.1 hfl hown hT.2.2.2.2.2 (by decide +kernel) (hts _ hT.1) (hts _ hT.2.1) hsr (thr_hat hT hts hE.2.1) (thr_ot hT) hE.2.2.2.1 hE.2.2.2.2.1 va_S.rf hsz d0 d3 d4 d7 d10 (fun z hz => (ht z hz).elim) (by show 2 + 3 < _; exact hfr) (by show _ + (13 * (2 + 1) + 43) ≤ _; exact hlo) (Nat.le_trans hc (Nat.le_refl _)) (Nat.le_trans hs (Nat.le_refl _)) hk (fun t _ hz hq => ⟨_, by rw [hF]; rfl, rfl, hz, hq⟩) (fun _ h => nomatch h) hc hs
  · intro pc ls rest cells slots k E ce q H1 hE1 hq hv hcl hz hkp hc hs hF
    exact vx_out (fun z hz => (ht z hz).elim) hk hq hv hcl (fun t ht _ => ⟨_, by rw [hF]; rfl, hE1, by rw [ht]; exact hz, fun z h => by rw [ht]; exact hkp z h⟩) (fun _ h => nomatch h) hc hs

theorem goUi {F : Nat → Except Nat (Int32 × XS)} (hfl : l.stackTraces = false) (hy10 : y.cls = RX10) (hy : plainName y.cls = true) (hlen : (lg_sl av).length ≤ maxL) (body : ∀ (p : Program) (e : Env) (s : State) (m : MethodId) (args : Array Value) (below : List Frame) (meth : Method) (c : Code) (ls : Array Slot) (R : Room) (Q : State → Prop) (nq : Nat), R.frames = fr → R.locals = lo → R.cells = mc → R.slots = ms → nq = s.heap.size → Cx D a p s m args c bytes maxL y.cls → EV D a e0 A s s.heap → HX D a x e0 A σ s.heap s.heap [] → lv_has ls maxL (lv_args 0 av) → (∀ (pc : Nat) (ls : Array Slot) (H : Heap) (locs : List Loc) (σ' : XS) (v : Int32), HX D a x e0 A σ' s.heap H locs → decode bytes pc = .ok (.ireturn, 1) → F nq = .ok (v, σ') → W p l e R s m args below meth c H locs mc ms Q (F0 m pc ls [.int v])) → (∀ {pc : Nat} {ls : Array Slot} {rest : List Value} {cells slots : Nat} {k ik is ic sa : Nat} {text : String}, THR ik ic (exN k) → vk_R RX10 is text sa s → ls.size = c.maxLocals → decode bytes pc = .ok (.new ik, 3) → decode bytes (pc + 3) = .ok (.dup, 1) → (decode bytes (pc + 4) = .ok (.ldc is, 2) ∧ decode bytes (pc + 6) = .ok (.invokespecial ic, 3) ∧ decode bytes (pc + 9) = .ok (.athrow, 1) ∨ decode bytes (pc + 4) = .ok (.ldc_w is, 3) ∧ decode bytes (pc + 7) = .ok (.invokespecial ic, 3) ∧ decode bytes (pc + 10) = .ok (.athrow, 1)) → 5 < R.frames → (rest.map fun v => v.category).sum + 82 ≤ R.locals → cells + 1 ≤ mc → slots + 6 ≤ ms → F nq = .error k → W p l e R s m args below meth c s.heap [] cells slots Q (F0 m pc ls rest)) → (∀ {pc : Nat} {ls : Array Slot} {rest : List Value} {cells slots : Nat} {k : Nat} {E : String} {ce : Cell} {q : Nat} {H1 : Heap}, E = exN k → H1[q]? = some ce → ce.vm = .none → s.vm.findClass E = some ce.cls → s.heap.size ≤ H1.size → (∀ z, z < s.heap.size → H1[z]? = s.heap[z]?) → cells ≤ mc → slots ≤ ms → F nq = .error k → vx_W p l e R s m args below meth c H1 [] cells slots Q (F0 m pc ls rest) q) → W p l e R s m args below meth c s.heap [] 0 0 Q (F0 m 0 ls [])) : KTm l D a x e0 A y bytes maxL (some .int) fr lo mc ms av σ (fun v => some (.int v)) F := by
  refine vx_ofW (cc := bytes) (maxL := maxL) (ret := (some .int)) hy rfl ?_
  intro p e s m args below meth c s₁ B' hml ht hv
  obtain ⟨rfl, hE, hP⟩ := hv
  have C : Cx D a p s m av.toArray c bytes maxL y.cls := ⟨⟨B'.exec, B'.bytes, hml, findClass_of_methodNamed B'.named, fun w h => atoms_spec (ws := .code y bytes maxL (some .int) :: TB) B'.pre w (List.mem_cons_of_mem _ h)⟩, hE.1⟩
  have hl := lv_entry av (n := maxL) hlen
  have hr := B'.returns
  have hk := B'.notSynchronized
  have hts := C.1.2.2.2.2
  have hown : s.vm.findClass RX10 = some m.cls := hy10 ▸ C.1.2.2.2.1
  rw [lg_entry_eq]
  refine body p e s m _ below meth c _ _ _ s.heap.size rfl rfl rfl rfl rfl C hE ⟨hP, va_S.rf⟩ hl ?_ ?_ ?_
  · intro pc ls H locs σ' v hM hdg hf
    exact vx_ret (W.iret C.1.1 C.1.2.1 hr (fun t ht _ => ⟨⟨_, _, hf, rfl, by rw [ht]; exact hM.1⟩, hM.2.F ht⟩) hM.2.2.2 hdg hk)
  · intro pc ls rest cells slots k ik is ic sa text hT hsr hsz d0 d3 hd hfr hlo hc hs hF
    rcases hd with ⟨d4, d6, d9⟩ | ⟨d4, d7, d10⟩
    · exact vx_throwS (names := exNames) (A := A) C.1.1 C.1.2.1 hfl hown hT.2.2.2.2.2 (by decide +kernel) (hts _ hT.1) (hts _ hT.2.1) hsr (thr_hat hT hts hE.2.1) (thr_ot hT) hE.2.2.2.1 hE.2.2.2.2.1 va_S.rf hsz d0 d3 d4 d6 d9 (fun z hz => (ht z hz).elim) (by show 2 + 3 < _; exact hfr) (by show _ + (13 * (2 + 1) + 43) ≤ _; exact hlo) (Nat.le_trans hc (Nat.le_refl _)) (Nat.le_trans hs (Nat.le_refl _)) hk (fun t _ hz hq => ⟨_, by rw [hF]; rfl, rfl, hz, hq⟩) (fun _ h => nomatch h) hc hs
    · exact vx_throwSW (names := exNames) (A := A) C.1.1 C.1.2.1 hfl hown hT.2.2.2.2.2 (by decide +kernel) (hts _ hT.1) (hts _ hT.2.1) hsr (thr_hat hT hts hE.2.1) (thr_ot hT) hE.2.2.2.1 hE.2.2.2.2.1 va_S.rf hsz d0 d3 d4 d7 d10 (fun z hz => (ht z hz).elim) (by show 2 + 3 < _; exact hfr) (by show _ + (13 * (2 + 1) + 43) ≤ _; exact hlo) (Nat.le_trans hc (Nat.le_refl _)) (Nat.le_trans hs (Nat.le_refl _)) hk (fun t _ hz hq => ⟨_, by rw [hF]; rfl, rfl, hz, hq⟩) (fun _ h => nomatch h) hc hs
  · intro pc ls rest cells slots k E ce q H1 hE1 hq hv hcl hz hkp hc hs hF
    exact vx_out (fun z hz => (ht z hz).elim) hk hq hv hcl (fun t ht _ => ⟨_, by rw [hF]; rfl, hE1, by rw [ht]; exact hz, fun z h => by rw [ht]; exact hkp z h⟩) (fun _ h => nomatch h) hc hs

theorem goXz {F : Nat → Int32 × XS} (hy : plainName y.cls = true) (hlen : (lg_sl av).length ≤ maxL) (body : ∀ (p : Program) (e : Env) (s : State) (m : MethodId) (args : Array Value) (below : List Frame) (meth : Method) (c : Code) (ls : Array Slot) (R : Room) (Q : State → Prop) (nq : Nat), R.frames = fr → R.locals = lo → R.cells = mc → R.slots = ms → nq = s.heap.size → Cx D a p s m args c bytes maxL y.cls → EV D a e0 A s s.heap → HX D a x e0 A σ s.heap s.heap [] → lv_has ls maxL (lv_args 0 av) → (∀ (pc : Nat) (ls : Array Slot) (H : Heap) (locs : List Loc) (σ' : XS) (v : Int32), HX D a x e0 A σ' s.heap H locs → decode bytes pc = .ok (.ireturn, 1) → zb v → F nq = (v, σ') → W p l e R s m args below meth c H locs mc ms Q (F0 m pc ls [.int v])) → W p l e R s m args below meth c s.heap [] 0 0 Q (F0 m 0 ls [])) : KX l D a x e0 A y bytes maxL (some .boolean) fr lo mc ms av σ (fun v => some (.int v)) F := by
  refine Met.ofW (cc := bytes) (maxL := maxL) (ret := (some .boolean)) hy rfl ?_
  intro p e s m args below meth c s₁ B' hml hv
  obtain ⟨rfl, hE, hP⟩ := hv
  have C : Cx D a p s m av.toArray c bytes maxL y.cls := ⟨⟨B'.exec, B'.bytes, hml, findClass_of_methodNamed B'.named, fun w h => atoms_spec (ws := .code y bytes maxL (some .boolean) :: TB) B'.pre w (List.mem_cons_of_mem _ h)⟩, hE.1⟩
  have hl := lv_entry av (n := maxL) hlen
  have hr := B'.returns
  have hk := B'.notSynchronized
  rw [lg_entry_eq]
  refine body p e s m _ below meth c _ _ _ s.heap.size rfl rfl rfl rfl rfl C hE ⟨hP, va_S.rf⟩ hl ?_
  intro pc ls H locs σ' v hM hdg hz hf
  exact W.zret C.1.1 C.1.2.1 hr (zb_nar hz) (fun t ht _ => ⟨⟨by rw [hf], by rw [ht, hf]; exact hM.1⟩, hM.2.F ht⟩) hM.2.2.2 hdg hk
theorem goTz {B : State → Prop} (hBE : ∀ U, B U → BE D a e0 A U) {F : Except Nat Int32} (hfl : l.stackTraces = false) (hy10 : y.cls = RX10) (hy : plainName y.cls = true) (hlen : (lg_sl av).length ≤ maxL) (body : ∀ (p : Program) (e : Env) (s : State) (m : MethodId) (args : Array Value) (below : List Frame) (meth : Method) (c : Code) (ls : Array Slot) (R : Room) (Q : State → Prop), R.frames = fr → R.locals = lo → R.cells = mc → R.slots = ms → Cx D a p s m args c bytes maxL y.cls → B s → lv_has ls maxL (lv_args 0 av) → (∀ (pc : Nat) (ls : Array Slot) (v : Int32), decode bytes pc = .ok (.ireturn, 1) → zb v → F = .ok v → W p l e R s m args below meth c s.heap [] mc ms Q (F0 m pc ls [.int v])) → (∀ {pc : Nat} {ls : Array Slot} {rest : List Value} {cells slots : Nat} {k ik is ic sa : Nat} {text : String}, THR ik ic (exN k) → vk_R RX10 is text sa s → ls.size = c.maxLocals → decode bytes pc = .ok (.new ik, 3) → decode bytes (pc + 3) = .ok (.dup, 1) → (decode bytes (pc + 4) = .ok (.ldc is, 2) ∧ decode bytes (pc + 6) = .ok (.invokespecial ic, 3) ∧ decode bytes (pc + 9) = .ok (.athrow, 1) ∨ decode bytes (pc + 4) = .ok (.ldc_w is, 3) ∧ decode bytes (pc + 7) = .ok (.invokespecial ic, 3) ∧ decode bytes (pc + 10) = .ok (.athrow, 1)) → 5 < R.frames → (rest.map fun v => v.category).sum + 82 ≤ R.locals → cells + 1 ≤ mc → slots + 6 ≤ ms → F = .error k → W p l e R s m args below meth c s.heap [] cells slots Q (F0 m pc ls rest)) → (∀ {pc : Nat} {ls : Array Slot} {rest : List Value} {cells slots : Nat} {k : Nat} {E : String} {ce : Cell} {q : Nat} {H1 : Heap}, E = exN k → H1[q]? = some ce → ce.vm = .none → s.vm.findClass E = some ce.cls → s.heap.size ≤ H1.size → (∀ z, z < s.heap.size → H1[z]? = s.heap[z]?) → cells ≤ mc → slots ≤ ms → F = .error k → vx_W p l e R s m args below meth c H1 [] cells slots Q (F0 m pc ls rest) q) → W p l e R s m args below meth c s.heap [] 0 0 Q (F0 m 0 ls [])) : KT0 l y bytes maxL (some .boolean) fr lo mc ms av B (fun v => some (.int v)) F := by
  refine vx_ofW (cc := bytes) (maxL := maxL) (ret := (some .boolean)) hy rfl ?_
  intro p e s m args below meth c s₁ B' hml ht hv
  obtain ⟨rfl, hE⟩ := hv
  have hl := lv_entry av (n := maxL) hlen
  have hr := B'.returns
  have hk := B'.notSynchronized
  rw [lg_entry_eq]
  have hB := hE
  have hE := hBE s hE
  have C : Cx D a p s m av.toArray c bytes maxL y.cls := ⟨⟨B'.exec, B'.bytes, hml, findClass_of_methodNamed B'.named, fun w h => atoms_spec (ws := .code y bytes maxL (some .boolean) :: TB) B'.pre w (List.mem_cons_of_mem _ h)⟩, hE.1⟩
  have hts := C.1.2.2.2.2
  have hown : s.vm.findClass RX10 = some m.cls := hy10 ▸ C.1.2.2.2.1
  refine body p e s m _ below meth c _ _ _ rfl rfl rfl rfl C hB hl ?_ ?_ ?_
  · intro pc ls v hdg hz hf
    exact vx_ret (W.zret C.1.1 C.1.2.1 hr (zb_nar hz) (fun t ht _ => ⟨_, hf, rfl, ht⟩) (fun _ h => nomatch h) hdg hk)
  · intro pc ls rest cells slots k ik is ic sa text hT hsr hsz d0 d3 hd hfr hlo hc hs hF
    rcases hd with ⟨d4, d6, d9⟩ | ⟨d4, d7, d10⟩
    · exact vx_throwS (names := exNames) (A := A) C.1.1 C.1.2.1 hfl hown hT.2.2.2.2.2 (by decide +kernel) (hts _ hT.1) (hts _ hT.2.1) hsr (thr_hat hT hts hE.2.1) (thr_ot hT) hE.2.2.2.1 hE.2.2.2.2.1 va_S.rf hsz d0 d3 d4 d6 d9 (fun z hz => (ht z hz).elim) (by show 2 + 3 < _; exact hfr) (by show _ + (13 * (2 + 1) + 43) ≤ _; exact hlo) (Nat.le_trans hc (Nat.le_refl _)) (Nat.le_trans hs (Nat.le_refl _)) hk (fun t _ hz hq => ⟨_, by rw [hF]; rfl, rfl, hz, hq⟩) (fun _ h => nomatch h) hc hs
    · exact vx_throwSW (names := exNames) (A := A) C.1.1 C.1.2.1 hfl hown hT.2.2.2.2.2 (by decide +kernel) (hts _ hT.1) (hts _ hT.2.1) hsr (thr_hat hT hts hE.2.1) (thr_ot hT) hE.2.2.2.1 hE.2.2.2.2.1 va_S.rf hsz d0 d3 d4 d7 d10 (fun z hz => (ht z hz).elim) (by show 2 + 3 < _; exact hfr) (by show _ + (13 * (2 + 1) + 43) ≤ _; exact hlo) (Nat.le_trans hc (Nat.le_refl _)) (Nat.le_trans hs (Nat.le_refl _)) hk (fun t _ hz hq => ⟨_, by rw [hF]; rfl, rfl, hz, hq⟩) (fun _ h => nomatch h) hc hs
  · intro pc ls rest cells slots k E ce q H1 hE1 hq hv hcl hz hkp hc hs hF
    exact vx_out (fun z hz => (ht z hz).elim) hk hq hv hcl (fun t ht _ => ⟨_, by rw [hF]; rfl, hE1, by rw [ht]; exact hz, fun z h => by rw [ht]; exact hkp z h⟩) (fun _ h => nomatch h) hc hs

theorem goUz {F : Nat → Except Nat (Int32 × XS)} (hfl : l.stackTraces = false) (hy10 : y.cls = RX10) (hy : plainName y.cls = true) (hlen : (lg_sl av).length ≤ maxL) (body : ∀ (p : Program) (e : Env) (s : State) (m : MethodId) (args : Array Value) (below : List Frame) (meth : Method) (c : Code) (ls : Array Slot) (R : Room) (Q : State → Prop) (nq : Nat), R.frames = fr → R.locals = lo → R.cells = mc → R.slots = ms → nq = s.heap.size → Cx D a p s m args c bytes maxL y.cls → EV D a e0 A s s.heap → HX D a x e0 A σ s.heap s.heap [] → lv_has ls maxL (lv_args 0 av) → (∀ (pc : Nat) (ls : Array Slot) (H : Heap) (locs : List Loc) (σ' : XS) (v : Int32), HX D a x e0 A σ' s.heap H locs → decode bytes pc = .ok (.ireturn, 1) → zb v → F nq = .ok (v, σ') → W p l e R s m args below meth c H locs mc ms Q (F0 m pc ls [.int v])) → (∀ {pc : Nat} {ls : Array Slot} {rest : List Value} {cells slots : Nat} {k ik is ic sa : Nat} {text : String}, THR ik ic (exN k) → vk_R RX10 is text sa s → ls.size = c.maxLocals → decode bytes pc = .ok (.new ik, 3) → decode bytes (pc + 3) = .ok (.dup, 1) → (decode bytes (pc + 4) = .ok (.ldc is, 2) ∧ decode bytes (pc + 6) = .ok (.invokespecial ic, 3) ∧ decode bytes (pc + 9) = .ok (.athrow, 1) ∨ decode bytes (pc + 4) = .ok (.ldc_w is, 3) ∧ decode bytes (pc + 7) = .ok (.invokespecial ic, 3) ∧ decode bytes (pc + 10) = .ok (.athrow, 1)) → 5 < R.frames → (rest.map fun v => v.category).sum + 82 ≤ R.locals → cells + 1 ≤ mc → slots + 6 ≤ ms → F nq = .error k → W p l e R s m args below meth c s.heap [] cells slots Q (F0 m pc ls rest)) → (∀ {pc : Nat} {ls : Array Slot} {rest : List Value} {cells slots : Nat} {k : Nat} {E : String} {ce : Cell} {q : Nat} {H1 : Heap}, E = exN k → H1[q]? = some ce → ce.vm = .none → s.vm.findClass E = some ce.cls → s.heap.size ≤ H1.size → (∀ z, z < s.heap.size → H1[z]? = s.heap[z]?) → cells ≤ mc → slots ≤ ms → F nq = .error k → vx_W p l e R s m args below meth c H1 [] cells slots Q (F0 m pc ls rest) q) → W p l e R s m args below meth c s.heap [] 0 0 Q (F0 m 0 ls [])) : KTm l D a x e0 A y bytes maxL (some .boolean) fr lo mc ms av σ (fun v => some (.int v)) F := by
  refine vx_ofW (cc := bytes) (maxL := maxL) (ret := (some .boolean)) hy rfl ?_
  intro p e s m args below meth c s₁ B' hml ht hv
  obtain ⟨rfl, hE, hP⟩ := hv
  have C : Cx D a p s m av.toArray c bytes maxL y.cls := ⟨⟨B'.exec, B'.bytes, hml, findClass_of_methodNamed B'.named, fun w h => atoms_spec (ws := .code y bytes maxL (some .boolean) :: TB) B'.pre w (List.mem_cons_of_mem _ h)⟩, hE.1⟩
  have hl := lv_entry av (n := maxL) hlen
  have hr := B'.returns
  have hk := B'.notSynchronized
  have hts := C.1.2.2.2.2
  have hown : s.vm.findClass RX10 = some m.cls := hy10 ▸ C.1.2.2.2.1
  rw [lg_entry_eq]
  refine body p e s m _ below meth c _ _ _ s.heap.size rfl rfl rfl rfl rfl C hE ⟨hP, va_S.rf⟩ hl ?_ ?_ ?_
  · intro pc ls H locs σ' v hM hdg hz hf
    exact vx_ret (W.zret C.1.1 C.1.2.1 hr (zb_nar hz) (fun t ht _ => ⟨⟨_, _, hf, rfl, by rw [ht]; exact hM.1⟩, hM.2.F ht⟩) hM.2.2.2 hdg hk)
  · intro pc ls rest cells slots k ik is ic sa text hT hsr hsz d0 d3 hd hfr hlo hc hs hF
    rcases hd with ⟨d4, d6, d9⟩ | ⟨d4, d7, d10⟩
    · exact vx_throwS (names := exNames) (A := A) C.1.1 C.1.2.1 hfl hown hT.2.2.2.2.2 (by decide +kernel) (hts _ hT.1) (hts _ hT.2.1) hsr (thr_hat hT hts hE.2.1) (thr_ot hT) hE.2.2.2.1 hE.2.2.2.2.1 va_S.rf hsz d0 d3 d4 d6 d9 (fun z hz => (ht z hz).elim) (by show 2 + 3 < _; exact hfr) (by show _ + (13 * (2 + 1) + 43) ≤ _; exact hlo) (Nat.le_trans hc (Nat.le_refl _)) (Nat.le_trans hs (Nat.le_refl _)) hk (fun t _ hz hq => ⟨_, by rw [hF]; rfl, rfl, hz, hq⟩) (fun _ h => nomatch h) hc hs
    · exact vx_throwSW (names := exNames) (A := A) C.1.1 C.1.2.1 hfl hown hT.2.2.2.2.2 (by decide +kernel) (hts _ hT.1) (hts _ hT.2.1) hsr (thr_hat hT hts hE.2.1) (thr_ot hT) hE.2.2.2.1 hE.2.2.2.2.1 va_S.rf hsz d0 d3 d4 d7 d10 (fun z hz => (ht z hz).elim) (by show 2 + 3 < _; exact hfr) (by show _ + (13 * (2 + 1) + 43) ≤ _; exact hlo) (Nat.le_trans hc (Nat.le_refl _)) (Nat.le_trans hs (Nat.le_refl _)) hk (fun t _ hz hq => ⟨_, by rw [hF]; rfl, rfl, hz, hq⟩) (fun _ h => nomatch h) hc hs
  · intro pc ls rest cells slots k E ce q H1 hE1 hq hv hcl hz hkp hc hs hF
    exact vx_out (fun z hz => (ht z hz).elim) hk hq hv hcl (fun t ht _ => ⟨_, by rw [hF]; rfl, hE1, by rw [ht]; exact hz, fun z h => by rw [ht]; exact hkp z h⟩) (fun _ h => nomatch h) hc hs

theorem goXl {F : Nat → Int64 × XS} (hy : plainName y.cls = true) (hlen : (lg_sl av).length ≤ maxL) (body : ∀ (p : Program) (e : Env) (s : State) (m : MethodId) (args : Array Value) (below : List Frame) (meth : Method) (c : Code) (ls : Array Slot) (R : Room) (Q : State → Prop) (nq : Nat), R.frames = fr → R.locals = lo → R.cells = mc → R.slots = ms → nq = s.heap.size → Cx D a p s m args c bytes maxL y.cls → EV D a e0 A s s.heap → HX D a x e0 A σ s.heap s.heap [] → lv_has ls maxL (lv_args 0 av) → (∀ (pc : Nat) (ls : Array Slot) (H : Heap) (locs : List Loc) (σ' : XS) (v : Int64), HX D a x e0 A σ' s.heap H locs → decode bytes pc = .ok (.lreturn, 1) → F nq = (v, σ') → W p l e R s m args below meth c H locs mc ms Q (F0 m pc ls [.long v])) → W p l e R s m args below meth c s.heap [] 0 0 Q (F0 m 0 ls [])) : KX l D a x e0 A y bytes maxL (some .long) fr lo mc ms av σ (fun v => some (.long v)) F := by
  refine Met.ofW (cc := bytes) (maxL := maxL) (ret := (some .long)) hy rfl ?_
  intro p e s m args below meth c s₁ B' hml hv
  obtain ⟨rfl, hE, hP⟩ := hv
  have C : Cx D a p s m av.toArray c bytes maxL y.cls := ⟨⟨B'.exec, B'.bytes, hml, findClass_of_methodNamed B'.named, fun w h => atoms_spec (ws := .code y bytes maxL (some .long) :: TB) B'.pre w (List.mem_cons_of_mem _ h)⟩, hE.1⟩
  have hl := lv_entry av (n := maxL) hlen
  have hr := B'.returns
  have hk := B'.notSynchronized
  rw [lg_entry_eq]
  refine body p e s m _ below meth c _ _ _ s.heap.size rfl rfl rfl rfl rfl C hE ⟨hP, va_S.rf⟩ hl ?_
  intro pc ls H locs σ' v hM hdg hf
  exact W.lret C.1.1 C.1.2.1 hr (fun t ht _ => ⟨⟨by rw [hf], by rw [ht, hf]; exact hM.1⟩, hM.2.F ht⟩) hM.2.2.2 hdg hk
theorem goTl {B : State → Prop} (hBE : ∀ U, B U → BE D a e0 A U) {F : Except Nat Int64} (hfl : l.stackTraces = false) (hy10 : y.cls = RX10) (hy : plainName y.cls = true) (hlen : (lg_sl av).length ≤ maxL) (body : ∀ (p : Program) (e : Env) (s : State) (m : MethodId) (args : Array Value) (below : List Frame) (meth : Method) (c : Code) (ls : Array Slot) (R : Room) (Q : State → Prop), R.frames = fr → R.locals = lo → R.cells = mc → R.slots = ms → Cx D a p s m args c bytes maxL y.cls → B s → lv_has ls maxL (lv_args 0 av) → (∀ (pc : Nat) (ls : Array Slot) (v : Int64), decode bytes pc = .ok (.lreturn, 1) → F = .ok v → W p l e R s m args below meth c s.heap [] mc ms Q (F0 m pc ls [.long v])) → (∀ {pc : Nat} {ls : Array Slot} {rest : List Value} {cells slots : Nat} {k ik is ic sa : Nat} {text : String}, THR ik ic (exN k) → vk_R RX10 is text sa s → ls.size = c.maxLocals → decode bytes pc = .ok (.new ik, 3) → decode bytes (pc + 3) = .ok (.dup, 1) → (decode bytes (pc + 4) = .ok (.ldc is, 2) ∧ decode bytes (pc + 6) = .ok (.invokespecial ic, 3) ∧ decode bytes (pc + 9) = .ok (.athrow, 1) ∨ decode bytes (pc + 4) = .ok (.ldc_w is, 3) ∧ decode bytes (pc + 7) = .ok (.invokespecial ic, 3) ∧ decode bytes (pc + 10) = .ok (.athrow, 1)) → 5 < R.frames → (rest.map fun v => v.category).sum + 82 ≤ R.locals → cells + 1 ≤ mc → slots + 6 ≤ ms → F = .error k → W p l e R s m args below meth c s.heap [] cells slots Q (F0 m pc ls rest)) → (∀ {pc : Nat} {ls : Array Slot} {rest : List Value} {cells slots : Nat} {k : Nat} {E : String} {ce : Cell} {q : Nat} {H1 : Heap}, E = exN k → H1[q]? = some ce → ce.vm = .none → s.vm.findClass E = some ce.cls → s.heap.size ≤ H1.size → (∀ z, z < s.heap.size → H1[z]? = s.heap[z]?) → cells ≤ mc → slots ≤ ms → F = .error k → vx_W p l e R s m args below meth c H1 [] cells slots Q (F0 m pc ls rest) q) → W p l e R s m args below meth c s.heap [] 0 0 Q (F0 m 0 ls [])) : KT0 l y bytes maxL (some .long) fr lo mc ms av B (fun v => some (.long v)) F := by
  refine vx_ofW (cc := bytes) (maxL := maxL) (ret := (some .long)) hy rfl ?_
  intro p e s m args below meth c s₁ B' hml ht hv
  obtain ⟨rfl, hE⟩ := hv
  have hl := lv_entry av (n := maxL) hlen
  have hr := B'.returns
  have hk := B'.notSynchronized
  rw [lg_entry_eq]
  have hB := hE
  have hE := hBE s hE
  have C : Cx D a p s m av.toArray c bytes maxL y.cls := ⟨⟨B'.exec, B'.bytes, hml, findClass_of_methodNamed B'.named, fun w h => atoms_spec (ws := .code y bytes maxL (some .long) :: TB) B'.pre w (List.mem_cons_of_mem _ h)⟩, hE.1⟩
  have hts := C.1.2.2.2.2
  have hown : s.vm.findClass RX10 = some m.cls := hy10 ▸ C.1.2.2.2.1
  refine body p e s m _ below meth c _ _ _ rfl rfl rfl rfl C hB hl ?_ ?_ ?_
  · intro pc ls v hdg hf
    exact vx_ret (W.lret C.1.1 C.1.2.1 hr (fun t ht _ => ⟨_, hf, rfl, ht⟩) (fun _ h => nomatch h) hdg hk)
  · intro pc ls rest cells slots k ik is ic sa text hT hsr hsz d0 d3 hd hfr hlo hc hs hF
    rcases hd with ⟨d4, d6, d9⟩ | ⟨d4, d7, d10⟩
    · exact vx_throwS (names := exNames) (A := A) C.1.1 C.1.2.1 hfl hown hT.2.2.2.2.2 (by decide +kernel) (hts _ hT.1) (hts _ hT.2.1) hsr (thr_hat hT hts hE.2.1) (thr_ot hT) hE.2.2.2.1 hE.2.2.2.2.1 va_S.rf hsz d0 d3 d4 d6 d9 (fun z hz => (ht z hz).elim) (by show 2 + 3 < _; exact hfr) (by show _ + (13 * (2 + 1) + 43) ≤ _; exact hlo) (Nat.le_trans hc (Nat.le_refl _)) (Nat.le_trans hs (Nat.le_refl _)) hk (fun t _ hz hq => ⟨_, by rw [hF]; rfl, rfl, hz, hq⟩) (fun _ h => nomatch h) hc hs
    · exact vx_throwSW (names := exNames) (A := A) C.1.1 C.1.2.1 hfl hown hT.2.2.2.2.2 (by decide +kernel) (hts _ hT.1) (hts _ hT.2.1) hsr (thr_hat hT hts hE.2.1) (thr_ot hT) hE.2.2.2.1 hE.2.2.2.2.1 va_S.rf hsz d0 d3 d4 d7 d10 (fun z hz => (ht z hz).elim) (by show 2 + 3 < _; exact hfr) (by show _ + (13 * (2 + 1) + 43) ≤ _; exact hlo) (Nat.le_trans hc (Nat.le_refl _)) (Nat.le_trans hs (Nat.le_refl _)) hk (fun t _ hz hq => ⟨_, by rw [hF]; rfl, rfl, hz, hq⟩) (fun _ h => nomatch h) hc hs
  · intro pc ls rest cells slots k E ce q H1 hE1 hq hv hcl hz hkp hc hs hF
    exact vx_out (fun z hz => (ht z hz).elim) hk hq hv hcl (fun t ht _ => ⟨_, by rw [hF]; rfl, hE1, by rw [ht]; exact hz, fun z h => by rw [ht]; exact hkp z h⟩) (fun _ h => nomatch h) hc hs

theorem goUl {F : Nat → Except Nat (Int64 × XS)} (hfl : l.stackTraces = false) (hy10 : y.cls = RX10) (hy : plainName y.cls = true) (hlen : (lg_sl av).length ≤ maxL) (body : ∀ (p : Program) (e : Env) (s : State) (m : MethodId) (args : Array Value) (below : List Frame) (meth : Method) (c : Code) (ls : Array Slot) (R : Room) (Q : State → Prop) (nq : Nat), R.frames = fr → R.locals = lo → R.cells = mc → R.slots = ms → nq = s.heap.size → Cx D a p s m args c bytes maxL y.cls → EV D a e0 A s s.heap → HX D a x e0 A σ s.heap s.heap [] → lv_has ls maxL (lv_args 0 av) → (∀ (pc : Nat) (ls : Array Slot) (H : Heap) (locs : List Loc) (σ' : XS) (v : Int64), HX D a x e0 A σ' s.heap H locs → decode bytes pc = .ok (.lreturn, 1) → F nq = .ok (v, σ') → W p l e R s m args below meth c H locs mc ms Q (F0 m pc ls [.long v])) → (∀ {pc : Nat} {ls : Array Slot} {rest : List Value} {cells slots : Nat} {k ik is ic sa : Nat} {text : String}, THR ik ic (exN k) → vk_R RX10 is text sa s → ls.size = c.maxLocals → decode bytes pc = .ok (.new ik, 3) → decode bytes (pc + 3) = .ok (.dup, 1) → (decode bytes (pc + 4) = .ok (.ldc is, 2) ∧ decode bytes (pc + 6) = .ok (.invokespecial ic, 3) ∧ decode bytes (pc + 9) = .ok (.athrow, 1) ∨ decode bytes (pc + 4) = .ok (.ldc_w is, 3) ∧ decode bytes (pc + 7) = .ok (.invokespecial ic, 3) ∧ decode bytes (pc + 10) = .ok (.athrow, 1)) → 5 < R.frames → (rest.map fun v => v.category).sum + 82 ≤ R.locals → cells + 1 ≤ mc → slots + 6 ≤ ms → F nq = .error k → W p l e R s m args below meth c s.heap [] cells slots Q (F0 m pc ls rest)) → (∀ {pc : Nat} {ls : Array Slot} {rest : List Value} {cells slots : Nat} {k : Nat} {E : String} {ce : Cell} {q : Nat} {H1 : Heap}, E = exN k → H1[q]? = some ce → ce.vm = .none → s.vm.findClass E = some ce.cls → s.heap.size ≤ H1.size → (∀ z, z < s.heap.size → H1[z]? = s.heap[z]?) → cells ≤ mc → slots ≤ ms → F nq = .error k → vx_W p l e R s m args below meth c H1 [] cells slots Q (F0 m pc ls rest) q) → W p l e R s m args below meth c s.heap [] 0 0 Q (F0 m 0 ls [])) : KTm l D a x e0 A y bytes maxL (some .long) fr lo mc ms av σ (fun v => some (.long v)) F := by
  refine vx_ofW (cc := bytes) (maxL := maxL) (ret := (some .long)) hy rfl ?_
  intro p e s m args below meth c s₁ B' hml ht hv
  obtain ⟨rfl, hE, hP⟩ := hv
  have C : Cx D a p s m av.toArray c bytes maxL y.cls := ⟨⟨B'.exec, B'.bytes, hml, findClass_of_methodNamed B'.named, fun w h => atoms_spec (ws := .code y bytes maxL (some .long) :: TB) B'.pre w (List.mem_cons_of_mem _ h)⟩, hE.1⟩
  have hl := lv_entry av (n := maxL) hlen
  have hr := B'.returns
  have hk := B'.notSynchronized
  have hts := C.1.2.2.2.2
  have hown : s.vm.findClass RX10 = some m.cls := hy10 ▸ C.1.2.2.2.1
  rw [lg_entry_eq]
  refine body p e s m _ below meth c _ _ _ s.heap.size rfl rfl rfl rfl rfl C hE ⟨hP, va_S.rf⟩ hl ?_ ?_ ?_
  · intro pc ls H locs σ' v hM hdg hf
    exact vx_ret (W.lret C.1.1 C.1.2.1 hr (fun t ht _ => ⟨⟨_, _, hf, rfl, by rw [ht]; exact hM.1⟩, hM.2.F ht⟩) hM.2.2.2 hdg hk)
  · intro pc ls rest cells slots k ik is ic sa text hT hsr hsz d0 d3 hd hfr hlo hc hs hF
    rcases hd with ⟨d4, d6, d9⟩ | ⟨d4, d7, d10⟩
    · exact vx_throwS (names := exNames) (A := A) C.1.1 C.1.2.1 hfl hown hT.2.2.2.2.2 (by decide +kernel) (hts _ hT.1) (hts _ hT.2.1) hsr (thr_hat hT hts hE.2.1) (thr_ot hT) hE.2.2.2.1 hE.2.2.2.2.1 va_S.rf hsz d0 d3 d4 d6 d9 (fun z hz => (ht z hz).elim) (by show 2 + 3 < _; exact hfr) (by show _ + (13 * (2 + 1) + 43) ≤ _; exact hlo) (Nat.le_trans hc (Nat.le_refl _)) (Nat.le_trans hs (Nat.le_refl _)) hk (fun t _ hz hq => ⟨_, by rw [hF]; rfl, rfl, hz, hq⟩) (fun _ h => nomatch h) hc hs
    · exact vx_throwSW (names := exNames) (A := A) C.1.1 C.1.2.1 hfl hown hT.2.2.2.2.2 (by decide +kernel) (hts _ hT.1) (hts _ hT.2.1) hsr (thr_hat hT hts hE.2.1) (thr_ot hT) hE.2.2.2.1 hE.2.2.2.2.1 va_S.rf hsz d0 d3 d4 d7 d10 (fun z hz => (ht z hz).elim) (by show 2 + 3 < _; exact hfr) (by show _ + (13 * (2 + 1) + 43) ≤ _; exact hlo) (Nat.le_trans hc (Nat.le_refl _)) (Nat.le_trans hs (Nat.le_refl _)) hk (fun t _ hz hq => ⟨_, by rw [hF]; rfl, rfl, hz, hq⟩) (fun _ h => nomatch h) hc hs
  · intro pc ls rest cells slots k E ce q H1 hE1 hq hv hcl hz hkp hc hs hF
    exact vx_out (fun z hz => (ht z hz).elim) hk hq hv hcl (fun t ht _ => ⟨_, by rw [hF]; rfl, hE1, by rw [ht]; exact hz, fun z h => by rw [ht]; exact hkp z h⟩) (fun _ h => nomatch h) hc hs

theorem go0a {cn : String} {B : State → Prop} {F : Nat} (hy : plainName y.cls = true) (hBK : ∀ U, B U → va_K D vwCl (tyL a) U) (hlen : (lg_sl av).length ≤ maxL) (body : Go l D a y bytes maxL fr lo av (fun p s m args below meth c e R Q => B s ∧ ∀ (pc : Nat) (ls : Array Slot) (v : Nat), decode bytes pc = .ok (.areturn, 1) → F = v → W p l e R s m args below meth c s.heap [] 0 0 Q (F0 m pc ls [.ref v]))) : K0 l y bytes maxL (some (.object cn)) fr lo av B (.ref F) :=
  start0 hy hBK hlen fun p e s m below meth c ls C hr hk hB hl => body p e s m _ below meth c ls _ _ rfl rfl C hl ⟨hB, fun _ _ v hdg hf => by subst hf; exact W.aret C.1.1 C.1.2.1 hr (Or.inl ⟨_, rfl⟩) (Or.inr ⟨_, rfl⟩) (fun t ht _ => ⟨rfl, ht⟩) (fun _ h => nomatch h) hdg hk⟩
theorem goXa {cn : String} {F : Nat → Nat × XS} (hy : plainName y.cls = true) (hlen : (lg_sl av).length ≤ maxL) (body : ∀ (p : Program) (e : Env) (s : State) (m : MethodId) (args : Array Value) (below : List Frame) (meth : Method) (c : Code) (ls : Array Slot) (R : Room) (Q : State → Prop) (nq : Nat), R.frames = fr → R.locals = lo → R.cells = mc → R.slots = ms → nq = s.heap.size → Cx D a p s m args c bytes maxL y.cls → EV D a e0 A s s.heap → HX D a x e0 A σ s.heap s.heap [] → lv_has ls maxL (lv_args 0 av) → (∀ (pc : Nat) (ls : Array Slot) (H : Heap) (locs : List Loc) (σ' : XS) (v : Nat), HX D a x e0 A σ' s.heap H locs → decode bytes pc = .ok (.areturn, 1) → F nq = (v, σ') → W p l e R s m args below meth c H locs mc ms Q (F0 m pc ls [.ref v])) → W p l e R s m args below meth c s.heap [] 0 0 Q (F0 m 0 ls [])) : KX l D a x e0 A y bytes maxL (some (.object cn)) fr lo mc ms av σ (fun v => some (.ref v)) F := by
  refine Met.ofW (cc := bytes) (maxL := maxL) (ret := (some (.object cn))) hy rfl ?_
  intro p e s m args below meth c s₁ B' hml hv
  obtain ⟨rfl, hE, hP⟩ := hv
  have C : Cx D a p s m av.toArray c bytes maxL y.cls := ⟨⟨B'.exec, B'.bytes, hml, findClass_of_methodNamed B'.named, fun w h => atoms_spec (ws := .code y bytes maxL (some (.object cn)) :: TB) B'.pre w (List.mem_cons_of_mem _ h)⟩, hE.1⟩
  have hl := lv_entry av (n := maxL) hlen
  have hr := B'.returns
  have hk := B'.notSynchronized
  rw [lg_entry_eq]
  refine body p e s m _ below meth c _ _ _ s.heap.size rfl rfl rfl rfl rfl C hE ⟨hP, va_S.rf⟩ hl ?_
  intro pc ls H locs σ' v hM hdg hf
  exact W.aret C.1.1 C.1.2.1 hr (Or.inl ⟨_, rfl⟩) (Or.inr ⟨_, rfl⟩) (fun t ht _ => ⟨⟨by rw [hf], by rw [ht, hf]; exact hM.1⟩, hM.2.F ht⟩) hM.2.2.2 hdg hk
theorem goTa {cn : String} {B : State → Prop} (hBE : ∀ U, B U → BE D a e0 A U) {F : Except Nat Nat} (hfl : l.stackTraces = false) (hy10 : y.cls = RX10) (hy : plainName y.cls = true) (hlen : (lg_sl av).length ≤ maxL) (body : ∀ (p : Program) (e : Env) (s : State) (m : MethodId) (args : Array Value) (below : List Frame) (meth : Method) (c : Code) (ls : Array Slot) (R : Room) (Q : State → Prop), R.frames = fr → R.locals = lo → R.cells = mc → R.slots = ms → Cx D a p s m args c bytes maxL y.cls → B s → lv_has ls maxL (lv_args 0 av) → (∀ (pc : Nat) (ls : Array Slot) (v : Nat), decode bytes pc = .ok (.areturn, 1) → F = .ok v → W p l e R s m args below meth c s.heap [] mc ms Q (F0 m pc ls [.ref v])) → (∀ {pc : Nat} {ls : Array Slot} {rest : List Value} {cells slots : Nat} {k ik is ic sa : Nat} {text : String}, THR ik ic (exN k) → vk_R RX10 is text sa s → ls.size = c.maxLocals → decode bytes pc = .ok (.new ik, 3) → decode bytes (pc + 3) = .ok (.dup, 1) → (decode bytes (pc + 4) = .ok (.ldc is, 2) ∧ decode bytes (pc + 6) = .ok (.invokespecial ic, 3) ∧ decode bytes (pc + 9) = .ok (.athrow, 1) ∨ decode bytes (pc + 4) = .ok (.ldc_w is, 3) ∧ decode bytes (pc + 7) = .ok (.invokespecial ic, 3) ∧ decode bytes (pc + 10) = .ok (.athrow, 1)) → 5 < R.frames → (rest.map fun v => v.category).sum + 82 ≤ R.locals → cells + 1 ≤ mc → slots + 6 ≤ ms → F = .error k → W p l e R s m args below meth c s.heap [] cells slots Q (F0 m pc ls rest)) → (∀ {pc : Nat} {ls : Array Slot} {rest : List Value} {cells slots : Nat} {k : Nat} {E : String} {ce : Cell} {q : Nat} {H1 : Heap}, E = exN k → H1[q]? = some ce → ce.vm = .none → s.vm.findClass E = some ce.cls → s.heap.size ≤ H1.size → (∀ z, z < s.heap.size → H1[z]? = s.heap[z]?) → cells ≤ mc → slots ≤ ms → F = .error k → vx_W p l e R s m args below meth c H1 [] cells slots Q (F0 m pc ls rest) q) → W p l e R s m args below meth c s.heap [] 0 0 Q (F0 m 0 ls [])) : KT0 l y bytes maxL (some (.object cn)) fr lo mc ms av B (fun v => some (.ref v)) F := by
  refine vx_ofW (cc := bytes) (maxL := maxL) (ret := (some (.object cn))) hy rfl ?_
  intro p e s m args below meth c s₁ B' hml ht hv
  obtain ⟨rfl, hE⟩ := hv
  have hl := lv_entry av (n := maxL) hlen
  have hr := B'.returns
  have hk := B'.notSynchronized
  rw [lg_entry_eq]
  have hB := hE
  have hE := hBE s hE
  have C : Cx D a p s m av.toArray c bytes maxL y.cls := ⟨⟨B'.exec, B'.bytes, hml, findClass_of_methodNamed B'.named, fun w h => atoms_spec (ws := .code y bytes maxL (some (.object cn)) :: TB) B'.pre w (List.mem_cons_of_mem _ h)⟩, hE.1⟩
  have hts := C.1.2.2.2.2
  have hown : s.vm.findClass RX10 = some m.cls := hy10 ▸ C.1.2.2.2.1
  refine body p e s m _ below meth c _ _ _ rfl rfl rfl rfl C hB hl ?_ ?_ ?_
  · intro pc ls v hdg hf
    exact vx_ret (W.aret C.1.1 C.1.2.1 hr (Or.inl ⟨_, rfl⟩) (Or.inr ⟨_, rfl⟩) (fun t ht _ => ⟨_, hf, rfl, ht⟩) (fun _ h => nomatch h) hdg hk)
  · intro pc ls rest cells slots k ik is ic sa text hT hsr hsz d0 d3 hd hfr hlo hc hs hF
    rcases hd with ⟨d4, d6, d9⟩ | ⟨d4, d7, d10⟩
    · exact vx_throwS (names := exNames) (A := A) C.1.1 C.1.2.1 hfl hown hT.2.2.2.2.2 (by decide +kernel) (hts _ hT.1) (hts _ hT.2.1) hsr (thr_hat hT hts hE.2.1) (thr_ot hT) hE.2.2.2.1 hE.2.2.2.2.1 va_S.rf hsz d0 d3 d4 d6 d9 (fun z hz => (ht z hz).elim) (by show 2 + 3 < _; exact hfr) (by show _ + (13 * (2 + 1) + 43) ≤ _; exact hlo) (Nat.le_trans hc (Nat.le_refl _)) (Nat.le_trans hs (Nat.le_refl _)) hk (fun t _ hz hq => ⟨_, by rw [hF]; rfl, rfl, hz, hq⟩) (fun _ h => nomatch h) hc hs
    · exact vx_throwSW (names := exNames) (A := A) C.1.1 C.1.2.1 hfl hown hT.2.2.2.2.2 (by decide +kernel) (hts _ hT.1) (hts _ hT.2.1) hsr (thr_hat hT hts hE.2.1) (thr_ot hT) hE.2.2.2.1 hE.2.2.2.2.1 va_S.rf hsz d0 d3 d4 d7 d10 (fun z hz => (ht z hz).elim) (by show 2 + 3 < _; exact hfr) (by show _ + (13 * (2 + 1) + 43) ≤ _; exact hlo) (Nat.le_trans hc (Nat.le_refl _)) (Nat.le_trans hs (Nat.le_refl _)) hk (fun t _ hz hq => ⟨_, by rw [hF]; rfl, rfl, hz, hq⟩) (fun _ h => nomatch h) hc hs
  · intro pc ls rest cells slots k E ce q H1 hE1 hq hv hcl hz hkp hc hs hF
    exact vx_out (fun z hz => (ht z hz).elim) hk hq hv hcl (fun t ht _ => ⟨_, by rw [hF]; rfl, hE1, by rw [ht]; exact hz, fun z h => by rw [ht]; exact hkp z h⟩) (fun _ h => nomatch h) hc hs

theorem goUa {cn : String} {F : Nat → Except Nat (Nat × XS)} (hfl : l.stackTraces = false) (hy10 : y.cls = RX10) (hy : plainName y.cls = true) (hlen : (lg_sl av).length ≤ maxL) (body : ∀ (p : Program) (e : Env) (s : State) (m : MethodId) (args : Array Value) (below : List Frame) (meth : Method) (c : Code) (ls : Array Slot) (R : Room) (Q : State → Prop) (nq : Nat), R.frames = fr → R.locals = lo → R.cells = mc → R.slots = ms → nq = s.heap.size → Cx D a p s m args c bytes maxL y.cls → EV D a e0 A s s.heap → HX D a x e0 A σ s.heap s.heap [] → lv_has ls maxL (lv_args 0 av) → (∀ (pc : Nat) (ls : Array Slot) (H : Heap) (locs : List Loc) (σ' : XS) (v : Nat), HX D a x e0 A σ' s.heap H locs → decode bytes pc = .ok (.areturn, 1) → F nq = .ok (v, σ') → W p l e R s m args below meth c H locs mc ms Q (F0 m pc ls [.ref v])) → (∀ {pc : Nat} {ls : Array Slot} {rest : List Value} {cells slots : Nat} {k ik is ic sa : Nat} {text : String}, THR ik ic (exN k) → vk_R RX10 is text sa s → ls.size = c.maxLocals → decode bytes pc = .ok (.new ik, 3) → decode bytes (pc + 3) = .ok (.dup, 1) → (decode bytes (pc + 4) = .ok (.ldc is, 2) ∧ decode bytes (pc + 6) = .ok (.invokespecial ic, 3) ∧ decode bytes (pc + 9) = .ok (.athrow, 1) ∨ decode bytes (pc + 4) = .ok (.ldc_w is, 3) ∧ decode bytes (pc + 7) = .ok (.invokespecial ic, 3) ∧ decode bytes (pc + 10) = .ok (.athrow, 1)) → 5 < R.frames → (rest.map fun v => v.category).sum + 82 ≤ R.locals → cells + 1 ≤ mc → slots + 6 ≤ ms → F nq = .error k → W p l e R s m args below meth c s.heap [] cells slots Q (F0 m pc ls rest)) → (∀ {pc : Nat} {ls : Array Slot} {rest : List Value} {cells slots : Nat} {k : Nat} {E : String} {ce : Cell} {q : Nat} {H1 : Heap}, E = exN k → H1[q]? = some ce → ce.vm = .none → s.vm.findClass E = some ce.cls → s.heap.size ≤ H1.size → (∀ z, z < s.heap.size → H1[z]? = s.heap[z]?) → cells ≤ mc → slots ≤ ms → F nq = .error k → vx_W p l e R s m args below meth c H1 [] cells slots Q (F0 m pc ls rest) q) → W p l e R s m args below meth c s.heap [] 0 0 Q (F0 m 0 ls [])) : KTm l D a x e0 A y bytes maxL (some (.object cn)) fr lo mc ms av σ (fun v => some (.ref v)) F := by
  refine vx_ofW (cc := bytes) (maxL := maxL) (ret := (some (.object cn))) hy rfl ?_
  intro p e s m args below meth c s₁ B' hml ht hv
  obtain ⟨rfl, hE, hP⟩ := hv
  have C : Cx D a p s m av.toArray c bytes maxL y.cls := ⟨⟨B'.exec, B'.bytes, hml, findClass_of_methodNamed B'.named, fun w h => atoms_spec (ws := .code y bytes maxL (some (.object cn)) :: TB) B'.pre w (List.mem_cons_of_mem _ h)⟩, hE.1⟩
  have hl := lv_entry av (n := maxL) hlen
  have hr := B'.returns
  have hk := B'.notSynchronized
  have hts := C.1.2.2.2.2
  have hown : s.vm.findClass RX10 = some m.cls := hy10 ▸ C.1.2.2.2.1
  rw [lg_entry_eq]
  refine body p e s m _ below meth c _ _ _ s.heap.size rfl rfl rfl rfl rfl C hE ⟨hP, va_S.rf⟩ hl ?_ ?_ ?_
  · intro pc ls H locs σ' v hM hdg hf
    exact vx_ret (W.aret C.1.1 C.1.2.1 hr (Or.inl ⟨_, rfl⟩) (Or.inr ⟨_, rfl⟩) (fun t ht _ => ⟨⟨_, _, hf, rfl, by rw [ht]; exact hM.1⟩, hM.2.F ht⟩) hM.2.2.2 hdg hk)
  · intro pc ls rest cells slots k ik is ic sa text hT hsr hsz d0 d3 hd hfr hlo hc hs hF
    rcases hd with ⟨d4, d6, d9⟩ | ⟨d4, d7, d10⟩
    · exact vx_throwS (names := exNames) (A := A) C.1.1 C.1.2.1 hfl hown hT.2.2.2.2.2 (by decide +kernel) (hts _ hT.1) (hts _ hT.2.1) hsr (thr_hat hT hts hE.2.1) (thr_ot hT) hE.2.2.2.1 hE.2.2.2.2.1 va_S.rf hsz d0 d3 d4 d6 d9 (fun z hz => (ht z hz).elim) (by show 2 + 3 < _; exact hfr) (by show _ + (13 * (2 + 1) + 43) ≤ _; exact hlo) (Nat.le_trans hc (Nat.le_refl _)) (Nat.le_trans hs (Nat.le_refl _)) hk (fun t _ hz hq => ⟨_, by rw [hF]; rfl, rfl, hz, hq⟩) (fun _ h => nomatch h) hc hs
    · exact vx_throwSW (names := exNames) (A := A) C.1.1 C.1.2.1 hfl hown hT.2.2.2.2.2 (by decide +kernel) (hts _ hT.1) (hts _ hT.2.1) hsr (thr_hat hT hts hE.2.1) (thr_ot hT) hE.2.2.2.1 hE.2.2.2.2.1 va_S.rf hsz d0 d3 d4 d7 d10 (fun z hz => (ht z hz).elim) (by show 2 + 3 < _; exact hfr) (by show _ + (13 * (2 + 1) + 43) ≤ _; exact hlo) (Nat.le_trans hc (Nat.le_refl _)) (Nat.le_trans hs (Nat.le_refl _)) hk (fun t _ hz hq => ⟨_, by rw [hF]; rfl, rfl, hz, hq⟩) (fun _ h => nomatch h) hc hs
  · intro pc ls rest cells slots k E ce q H1 hE1 hq hv hcl hz hkp hc hs hF
    exact vx_out (fun z hz => (ht z hz).elim) hk hq hv hcl (fun t ht _ => ⟨_, by rw [hF]; rfl, hE1, by rw [ht]; exact hz, fun z h => by rw [ht]; exact hkp z h⟩) (fun _ h => nomatch h) hc hs

theorem go0n {cn : String} {B : State → Prop} {F : Nat} (hy : plainName y.cls = true) (hBK : ∀ U, B U → va_K D vwCl (tyL a) U) (hlen : (lg_sl av).length ≤ maxL) (body : Go l D a y bytes maxL fr lo av (fun p s m args below meth c e R Q => B s ∧ ∀ (pc : Nat) (ls : Array Slot) (v : Nat), decode bytes pc = .ok (.areturn, 1) → F = v → W p l e R s m args below meth c s.heap [] 0 0 Q (F0 m pc ls [rv v]))) : K0 l y bytes maxL (some (.object cn)) fr lo av B (rv F) :=
  start0 hy hBK hlen fun p e s m below meth c ls C hr hk hB hl => body p e s m _ below meth c ls _ _ rfl rfl C hl ⟨hB, fun _ _ v hdg hf => by subst hf; exact W.aret C.1.1 C.1.2.1 hr (Or.inl ⟨_, rfl⟩) (rv_cases F) (fun t ht _ => ⟨rfl, ht⟩) (fun _ h => nomatch h) hdg hk⟩
theorem goXn {cn : String} {F : Nat → Nat × XS} (hy : plainName y.cls = true) (hlen : (lg_sl av).length ≤ maxL) (body : ∀ (p : Program) (e : Env) (s : State) (m : MethodId) (args : Array Value) (below : List Frame) (meth : Method) (c : Code) (ls : Array Slot) (R : Room) (Q : State → Prop) (nq : Nat), R.frames = fr → R.locals = lo → R.cells = mc → R.slots = ms → nq = s.heap.size → Cx D a p s m args c bytes maxL y.cls → EV D a e0 A s s.heap → HX D a x e0 A σ s.heap s.heap [] → lv_has ls maxL (lv_args 0 av) → (∀ (pc : Nat) (ls : Array Slot) (H : Heap) (locs : List Loc) (σ' : XS) (v : Nat), HX D a x e0 A σ' s.heap H locs → decode bytes pc = .ok (.areturn, 1) → F nq = (v, σ') → W p l e R s m args below meth c H locs mc ms Q (F0 m pc ls [rv v])) → W p l e R s m args below meth c s.heap [] 0 0 Q (F0 m 0 ls [])) : KX l D a x e0 A y bytes maxL (some (.object cn)) fr lo mc ms av σ (fun v => some (rv v)) F := by
  refine Met.ofW (cc := bytes) (maxL := maxL) (ret := (some (.object cn))) hy rfl ?_
  intro p e s m args below meth c s₁ B' hml hv
  obtain ⟨rfl, hE, hP⟩ := hv
  have C : Cx D a p s m av.toArray c bytes maxL y.cls := ⟨⟨B'.exec, B'.bytes, hml, findClass_of_methodNamed B'.named, fun w h => atoms_spec (ws := .code y bytes maxL (some (.object cn)) :: TB) B'.pre w (List.mem_cons_of_mem _ h)⟩, hE.1⟩
  have hl := lv_entry av (n := maxL) hlen
  have hr := B'.returns
  have hk := B'.notSynchronized
  rw [lg_entry_eq]
  refine body p e s m _ below meth c _ _ _ s.heap.size rfl rfl rfl rfl rfl C hE ⟨hP, va_S.rf⟩ hl ?_
  intro pc ls H locs σ' v hM hdg hf
  exact W.aret C.1.1 C.1.2.1 hr (Or.inl ⟨_, rfl⟩) (rv_cases v) (fun t ht _ => ⟨⟨by rw [hf], by rw [ht, hf]; exact hM.1⟩, hM.2.F ht⟩) hM.2.2.2 hdg hk
theorem goTn {cn : String} {B : State → Prop} (hBE : ∀ U, B U → BE D a e0 A U) {F : Except Nat Nat} (hfl : l.stackTraces = false) (hy10 : y.cls = RX10) (hy : plainName y.cls = true) (hlen : (lg_sl av).length ≤ maxL) (body : ∀ (p : Program) (e : Env) (s : State) (m : MethodId) (args : Array Value) (below : List Frame) (meth : Method) (c : Code) (ls : Array Slot) (R : Room) (Q : State → Prop), R.frames = fr → R.locals = lo → R.cells = mc → R.slots = ms → Cx D a p s m args c bytes maxL y.cls → B s → lv_has ls maxL (lv_args 0 av) → (∀ (pc : Nat) (ls : Array Slot) (v : Nat), decode bytes pc = .ok (.areturn, 1) → F = .ok v → W p l e R s m args below meth c s.heap [] mc ms Q (F0 m pc ls [rv v])) → (∀ {pc : Nat} {ls : Array Slot} {rest : List Value} {cells slots : Nat} {k ik is ic sa : Nat} {text : String}, THR ik ic (exN k) → vk_R RX10 is text sa s → ls.size = c.maxLocals → decode bytes pc = .ok (.new ik, 3) → decode bytes (pc + 3) = .ok (.dup, 1) → (decode bytes (pc + 4) = .ok (.ldc is, 2) ∧ decode bytes (pc + 6) = .ok (.invokespecial ic, 3) ∧ decode bytes (pc + 9) = .ok (.athrow, 1) ∨ decode bytes (pc + 4) = .ok (.ldc_w is, 3) ∧ decode bytes (pc + 7) = .ok (.invokespecial ic, 3) ∧ decode bytes (pc + 10) = .ok (.athrow, 1)) → 5 < R.frames → (rest.map fun v => v.category).sum + 82 ≤ R.locals → cells + 1 ≤ mc → slots + 6 ≤ ms → F = .error k → W p l e R s m args below meth c s.heap [] cells slots Q (F0 m pc ls rest)) → (∀ {pc : Nat} {ls : Array Slot} {rest : List Value} {cells slots : Nat} {k : Nat} {E : String} {ce : Cell} {q : Nat} {H1 : Heap}, E = exN k → H1[q]? = some ce → ce.vm = .none → s.vm.findClass E = some ce.cls → s.heap.size ≤ H1.size → (∀ z, z < s.heap.size → H1[z]? = s.heap[z]?) → cells ≤ mc → slots ≤ ms → F = .error k → vx_W p l e R s m args below meth c H1 [] cells slots Q (F0 m pc ls rest) q) → W p l e R s m args below meth c s.heap [] 0 0 Q (F0 m 0 ls [])) : KT0 l y bytes maxL (some (.object cn)) fr lo mc ms av B (fun v => some (rv v)) F := by
  refine vx_ofW (cc := bytes) (maxL := maxL) (ret := (some (.object cn))) hy rfl ?_
  intro p e s m args below meth c s₁ B' hml ht hv
  obtain ⟨rfl, hE⟩ := hv
  have hl := lv_entry av (n := maxL) hlen
  have hr := B'.returns
  have hk := B'.notSynchronized
  rw [lg_entry_eq]
  have hB := hE
  have hE := hBE s hE
  have C : Cx D a p s m av.toArray c bytes maxL y.cls := ⟨⟨B'.exec, B'.bytes, hml, findClass_of_methodNamed B'.named, fun w h => atoms_spec (ws := .code y bytes maxL (some (.object cn)) :: TB) B'.pre w (List.mem_cons_of_mem _ h)⟩, hE.1⟩
  have hts := C.1.2.2.2.2
  have hown : s.vm.findClass RX10 = some m.cls := hy10 ▸ C.1.2.2.2.1
  refine body p e s m _ below meth c _ _ _ rfl rfl rfl rfl C hB hl ?_ ?_ ?_
  · intro pc ls v hdg hf
    exact vx_ret (W.aret C.1.1 C.1.2.1 hr (Or.inl ⟨_, rfl⟩) (rv_cases v) (fun t ht _ => ⟨_, hf, rfl, ht⟩) (fun _ h => nomatch h) hdg hk)
  · intro pc ls rest cells slots k ik is ic sa text hT hsr hsz d0 d3 hd hfr hlo hc hs hF
    rcases hd with ⟨d4, d6, d9⟩ | ⟨d4, d7, d10⟩
    · exact vx_throwS (names := exNames) (A := A) C.1.1 C.1.2.1 hfl hown hT.2.2.2.2.2 (by decide +kernel) (hts _ hT.1) (hts _ hT.2.1) hsr (thr_hat hT hts hE.2.1) (thr_ot hT) hE.2.2.2.1 hE.2.2.2.2.1 va_S.rf hsz d0 d3 d4 d6 d9 (fun z hz => (ht z hz).elim) (by show 2 + 3 < _; exact hfr) (by show _ + (13 * (2 + 1) + 43) ≤ _; exact hlo) (Nat.le_trans hc (Nat.le_refl _)) (Nat.le_trans hs (Nat.le_refl _)) hk (fun t _ hz hq => ⟨_, by rw [hF]; rfl, rfl, hz, hq⟩) (fun _ h => nomatch h) hc hs
    · exact vx_throwSW (names := exNames) (A := A) C.1.1 C.1.2.1 hfl hown hT.2.2.2.2.2 (by decide +kernel) (hts _ hT.1) (hts _ hT.2.1) hsr (thr_hat hT hts hE.2.1) (thr_ot hT) hE.2.2.2.1 hE.2.2.2.2.1 va_S.rf hsz d0 d3 d4 d7 d10 (fun z hz => (ht z hz).elim) (by show 2 + 3 < _; exact hfr) (by show _ + (13 * (2 + 1) + 43) ≤ _; exact hlo) (Nat.le_trans hc (Nat.le_refl _)) (Nat.le_trans hs (Nat.le_refl _)) hk (fun t _ hz hq => ⟨_, by rw [hF]; rfl, rfl, hz, hq⟩) (fun _ h => nomatch h) hc hs
  · intro pc ls rest cells slots k E ce q H1 hE1 hq hv hcl hz hkp hc hs hF
    exact vx_out (fun z hz => (ht z hz).elim) hk hq hv hcl (fun t ht _ => ⟨_, by rw [hF]; rfl, hE1, by rw [ht]; exact hz, fun z h => by rw [ht]; exact hkp z h⟩) (fun _ h => nomatch h) hc hs

theorem goUn {cn : String} {F : Nat → Except Nat (Nat × XS)} (hfl : l.stackTraces = false) (hy10 : y.cls = RX10) (hy : plainName y.cls = true) (hlen : (lg_sl av).length ≤ maxL) (body : ∀ (p : Program) (e : Env) (s : State) (m : MethodId) (args : Array Value) (below : List Frame) (meth : Method) (c : Code) (ls : Array Slot) (R : Room) (Q : State → Prop) (nq : Nat), R.frames = fr → R.locals = lo → R.cells = mc → R.slots = ms → nq = s.heap.size → Cx D a p s m args c bytes maxL y.cls → EV D a e0 A s s.heap → HX D a x e0 A σ s.heap s.heap [] → lv_has ls maxL (lv_args 0 av) → (∀ (pc : Nat) (ls : Array Slot) (H : Heap) (locs : List Loc) (σ' : XS) (v : Nat), HX D a x e0 A σ' s.heap H locs → decode bytes pc = .ok (.areturn, 1) → F nq = .ok (v, σ') → W p l e R s m args below meth c H locs mc ms Q (F0 m pc ls [rv v])) → (∀ {pc : Nat} {ls : Array Slot} {rest : List Value} {cells slots : Nat} {k ik is ic sa : Nat} {text : String}, THR ik ic (exN k) → vk_R RX10 is text sa s → ls.size = c.maxLocals → decode bytes pc = .ok (.new ik, 3) → decode bytes (pc + 3) = .ok (.dup, 1) → (decode bytes (pc + 4) = .ok (.ldc is, 2) ∧ decode bytes (pc + 6) = .ok (.invokespecial ic, 3) ∧ decode bytes (pc + 9) = .ok (.athrow, 1) ∨ decode bytes (pc + 4) = .ok (.ldc_w is, 3) ∧ decode bytes (pc + 7) = .ok (.invokespecial ic, 3) ∧ decode bytes (pc + 10) = .ok (.athrow, 1)) → 5 < R.frames → (rest.map fun v => v.category).sum + 82 ≤ R.locals → cells + 1 ≤ mc → slots + 6 ≤ ms → F nq = .error k → W p l e R s m args below meth c s.heap [] cells slots Q (F0 m pc ls rest)) → (∀ {pc : Nat} {ls : Array Slot} {rest : List Value} {cells slots : Nat} {k : Nat} {E : String} {ce : Cell} {q : Nat} {H1 : Heap}, E = exN k → H1[q]? = some ce → ce.vm = .none → s.vm.findClass E = some ce.cls → s.heap.size ≤ H1.size → (∀ z, z < s.heap.size → H1[z]? = s.heap[z]?) → cells ≤ mc → slots ≤ ms → F nq = .error k → vx_W p l e R s m args below meth c H1 [] cells slots Q (F0 m pc ls rest) q) → W p l e R s m args below meth c s.heap [] 0 0 Q (F0 m 0 ls [])) : KTm l D a x e0 A y bytes maxL (some (.object cn)) fr lo mc ms av σ (fun v => some (rv v)) F := by
  refine vx_ofW (cc := bytes) (maxL := maxL) (ret := (some (.object cn))) hy rfl ?_
  intro p e s m args below meth c s₁ B' hml ht hv
  obtain ⟨rfl, hE, hP⟩ := hv
  have C : Cx D a p s m av.toArray c bytes maxL y.cls := ⟨⟨B'.exec, B'.bytes, hml, findClass_of_methodNamed B'.named, fun w h => atoms_spec (ws := .code y bytes maxL (some (.object cn)) :: TB) B'.pre w (List.mem_cons_of_mem _ h)⟩, hE.1⟩
  have hl := lv_entry av (n := maxL) hlen
  have hr := B'.returns
  have hk := B'.notSynchronized
  have hts := C.1.2.2.2.2
  have hown : s.vm.findClass RX10 = some m.cls := hy10 ▸ C.1.2.2.2.1
  rw [lg_entry_eq]
  refine body p e s m _ below meth c _ _ _ s.heap.size rfl rfl rfl rfl rfl C hE ⟨hP, va_S.rf⟩ hl ?_ ?_ ?_
  · intro pc ls H locs σ' v hM hdg hf
    exact vx_ret (W.aret C.1.1 C.1.2.1 hr (Or.inl ⟨_, rfl⟩) (rv_cases v) (fun t ht _ => ⟨⟨_, _, hf, rfl, by rw [ht]; exact hM.1⟩, hM.2.F ht⟩) hM.2.2.2 hdg hk)
  · intro pc ls rest cells slots k ik is ic sa text hT hsr hsz d0 d3 hd hfr hlo hc hs hF
    rcases hd with ⟨d4, d6, d9⟩ | ⟨d4, d7, d10⟩
    · exact vx_throwS (names := exNames) (A := A) C.1.1 C.1.2.1 hfl hown hT.2.2.2.2.2 (by decide +kernel) (hts _ hT.1) (hts _ hT.2.1) hsr (thr_hat hT hts hE.2.1) (thr_ot hT) hE.2.2.2.1 hE.2.2.2.2.1 va_S.rf hsz d0 d3 d4 d6 d9 (fun z hz => (ht z hz).elim) (by show 2 + 3 < _; exact hfr) (by show _ + (13 * (2 + 1) + 43) ≤ _; exact hlo) (Nat.le_trans hc (Nat.le_refl _)) (Nat.le_trans hs (Nat.le_refl _)) hk (fun t _ hz hq => ⟨_, by rw [hF]; rfl, rfl, hz, hq⟩) (fun _ h => nomatch h) hc hs
    · exact vx_throwSW (names := exNames) (A := A) C.1.1 C.1.2.1 hfl hown hT.2.2.2.2.2 (by decide +kernel) (hts _ hT.1) (hts _ hT.2.1) hsr (thr_hat hT hts hE.2.1) (thr_ot hT) hE.2.2.2.1 hE.2.2.2.2.1 va_S.rf hsz d0 d3 d4 d7 d10 (fun z hz => (ht z hz).elim) (by show 2 + 3 < _; exact hfr) (by show _ + (13 * (2 + 1) + 43) ≤ _; exact hlo) (Nat.le_trans hc (Nat.le_refl _)) (Nat.le_trans hs (Nat.le_refl _)) hk (fun t _ hz hq => ⟨_, by rw [hF]; rfl, rfl, hz, hq⟩) (fun _ h => nomatch h) hc hs
  · intro pc ls rest cells slots k E ce q H1 hE1 hq hv hcl hz hkp hc hs hF
    exact vx_out (fun z hz => (ht z hz).elim) hk hq hv hcl (fun t ht _ => ⟨_, by rw [hF]; rfl, hE1, by rw [ht]; exact hz, fun z h => by rw [ht]; exact hkp z h⟩) (fun _ h => nomatch h) hc hs

theorem goXv {F : Nat → Unit × XS} (hy : plainName y.cls = true) (hlen : (lg_sl av).length ≤ maxL) (body : ∀ (p : Program) (e : Env) (s : State) (m : MethodId) (args : Array Value) (below : List Frame) (meth : Method) (c : Code) (ls : Array Slot) (R : Room) (Q : State → Prop) (nq : Nat), R.frames = fr → R.locals = lo → R.cells = mc → R.slots = ms → nq = s.heap.size → Cx D a p s m args c bytes maxL y.cls → EV D a e0 A s s.heap → HX D a x e0 A σ s.heap s.heap [] → lv_has ls maxL (lv_args 0 av) → (y.name = "<init>" → meth.name = "<init>") → (∀ (pc : Nat) (ls : Array Slot) (H : Heap) (locs : List Loc) (σ' : XS), HX D a x e0 A σ' s.heap H locs → decode bytes pc = .ok (.return_, 1) → F nq = ((), σ') → W p l e R s m args below meth c H locs mc ms Q (F0 m pc ls [])) → W p l e R s m args below meth c s.heap [] 0 0 Q (F0 m 0 ls [])) : KX l D a x e0 A y bytes maxL none fr lo mc ms av σ (fun _ => none) F := by
  refine Met.ofW (cc := bytes) (maxL := maxL) (ret := none) hy rfl ?_
  intro p e s m args below meth c s₁ B' hml hv
  obtain ⟨rfl, hE, hP⟩ := hv
  have C : Cx D a p s m av.toArray c bytes maxL y.cls := ⟨⟨B'.exec, B'.bytes, hml, findClass_of_methodNamed B'.named, fun w h => atoms_spec (ws := .code y bytes maxL none :: TB) B'.pre w (List.mem_cons_of_mem _ h)⟩, hE.1⟩
  have hl := lv_entry av (n := maxL) hlen
  have hr := B'.returns
  have hk := B'.notSynchronized
  rw [lg_entry_eq]
  refine body p e s m _ below meth c _ _ _ s.heap.size rfl rfl rfl rfl rfl C hE ⟨hP, va_S.rf⟩ hl (fun h => (name_of_methodNamed B'.named B'.method).1.trans h) ?_
  intro pc ls H locs σ' hM hdg hf
  exact W.vret C.1.1 C.1.2.1 hr (fun t ht _ => ⟨⟨by rw [hf], by rw [ht, hf]; exact hM.1⟩, hM.2.F ht⟩) hM.2.2.2 hdg hk
theorem goTv {B : State → Prop} (hBE : ∀ U, B U → BE D a e0 A U) {F : Except Nat Unit} (hfl : l.stackTraces = false) (hy10 : y.cls = RX10) (hy : plainName y.cls = true) (hlen : (lg_sl av).length ≤ maxL) (body : ∀ (p : Program) (e : Env) (s : State) (m : MethodId) (args : Array Value) (below : List Frame) (meth : Method) (c : Code) (ls : Array Slot) (R : Room) (Q : State → Prop), R.frames = fr → R.locals = lo → R.cells = mc → R.slots = ms → Cx D a p s m args c bytes maxL y.cls → B s → lv_has ls maxL (lv_args 0 av) → (∀ (pc : Nat) (ls : Array Slot), decode bytes pc = .ok (.return_, 1) → F = .ok () → W p l e R s m args below meth c s.heap [] mc ms Q (F0 m pc ls [])) → (∀ {pc : Nat} {ls : Array Slot} {rest : List Value} {cells slots : Nat} {k ik is ic sa : Nat} {text : String}, THR ik ic (exN k) → vk_R RX10 is text sa s → ls.size = c.maxLocals → decode bytes pc = .ok (.new ik, 3) → decode bytes (pc + 3) = .ok (.dup, 1) → (decode bytes (pc + 4) = .ok (.ldc is, 2) ∧ decode bytes (pc + 6) = .ok (.invokespecial ic, 3) ∧ decode bytes (pc + 9) = .ok (.athrow, 1) ∨ decode bytes (pc + 4) = .ok (.ldc_w is, 3) ∧ decode bytes (pc + 7) = .ok (.invokespecial ic, 3) ∧ decode bytes (pc + 10) = .ok (.athrow, 1)) → 5 < R.frames → (rest.map fun v => v.category).sum + 82 ≤ R.locals → cells + 1 ≤ mc → slots + 6 ≤ ms → F = .error k → W p l e R s m args below meth c s.heap [] cells slots Q (F0 m pc ls rest)) → (∀ {pc : Nat} {ls : Array Slot} {rest : List Value} {cells slots : Nat} {k : Nat} {E : String} {ce : Cell} {q : Nat} {H1 : Heap}, E = exN k → H1[q]? = some ce → ce.vm = .none → s.vm.findClass E = some ce.cls → s.heap.size ≤ H1.size → (∀ z, z < s.heap.size → H1[z]? = s.heap[z]?) → cells ≤ mc → slots ≤ ms → F = .error k → vx_W p l e R s m args below meth c H1 [] cells slots Q (F0 m pc ls rest) q) → W p l e R s m args below meth c s.heap [] 0 0 Q (F0 m 0 ls [])) : KT0 l y bytes maxL none fr lo mc ms av B (fun _ => none) F := by
  refine vx_ofW (cc := bytes) (maxL := maxL) (ret := none) hy rfl ?_
  intro p e s m args below meth c s₁ B' hml ht hv
  obtain ⟨rfl, hE⟩ := hv
  have hl := lv_entry av (n := maxL) hlen
  have hr := B'.returns
  have hk := B'.notSynchronized
  rw [lg_entry_eq]
  have hB := hE
  have hE := hBE s hE
  have C : Cx D a p s m av.toArray c bytes maxL y.cls := ⟨⟨B'.exec, B'.bytes, hml, findClass_of_methodNamed B'.named, fun w h => atoms_spec (ws := .code y bytes maxL none :: TB) B'.pre w (List.mem_cons_of_mem _ h)⟩, hE.1⟩
  have hts := C.1.2.2.2.2
  have hown : s.vm.findClass RX10 = some m.cls := hy10 ▸ C.1.2.2.2.1
  refine body p e s m _ below meth c _ _ _ rfl rfl rfl rfl C hB hl ?_ ?_ ?_
  · intro pc ls hdg hf
    exact vx_ret (W.vret C.1.1 C.1.2.1 hr (fun t ht _ => ⟨_, hf, rfl, ht⟩) (fun _ h => nomatch h) hdg hk)
  · intro pc ls rest cells slots k ik is ic sa text hT hsr hsz d0 d3 hd hfr hlo hc hs hF
    rcases hd with ⟨d4, d6, d9⟩ | ⟨d4, d7, d10⟩
    · exact vx_throwS (names := exNames) (A := A) C.1.1 C.1.2.1 hfl hown hT.2.2.2.2.2 (by decide +kernel) (hts _ hT.1) (hts _ hT.2.1) hsr (thr_hat hT hts hE.2.1) (thr_ot hT) hE.2.2.2.1 hE.2.2.2.2.1 va_S.rf hsz d0 d3 d4 d6 d9 (fun z hz => (ht z hz).elim) (by show 2 + 3 < _; exact hfr) (by show _ + (13 * (2 + 1) + 43) ≤ _; exact hlo) (Nat.le_trans hc (Nat.le_refl _)) (Nat.le_trans hs (Nat.le_refl _)) hk (fun t _ hz hq => ⟨_, by rw [hF]; rfl, rfl, hz, hq⟩) (fun _ h => nomatch h) hc hs
    · exact vx_throwSW (names := exNames) (A := A) C.1.1 C.1.2.1 hfl hown hT.2.2.2.2.2 (by decide +kernel) (hts _ hT.1) (hts _ hT.2.1) hsr (thr_hat hT hts hE.2.1) (thr_ot hT) hE.2.2.2.1 hE.2.2.2.2.1 va_S.rf hsz d0 d3 d4 d7 d10 (fun z hz => (ht z hz).elim) (by show 2 + 3 < _; exact hfr) (by show _ + (13 * (2 + 1) + 43) ≤ _; exact hlo) (Nat.le_trans hc (Nat.le_refl _)) (Nat.le_trans hs (Nat.le_refl _)) hk (fun t _ hz hq => ⟨_, by rw [hF]; rfl, rfl, hz, hq⟩) (fun _ h => nomatch h) hc hs
  · intro pc ls rest cells slots k E ce q H1 hE1 hq hv hcl hz hkp hc hs hF
    exact vx_out (fun z hz => (ht z hz).elim) hk hq hv hcl (fun t ht _ => ⟨_, by rw [hF]; rfl, hE1, by rw [ht]; exact hz, fun z h => by rw [ht]; exact hkp z h⟩) (fun _ h => nomatch h) hc hs

theorem goUv {F : Nat → Except Nat (Unit × XS)} (hfl : l.stackTraces = false) (hy10 : y.cls = RX10) (hy : plainName y.cls = true) (hlen : (lg_sl av).length ≤ maxL) (body : ∀ (p : Program) (e : Env) (s : State) (m : MethodId) (args : Array Value) (below : List Frame) (meth : Method) (c : Code) (ls : Array Slot) (R : Room) (Q : State → Prop) (nq : Nat), R.frames = fr → R.locals = lo → R.cells = mc → R.slots = ms → nq = s.heap.size → Cx D a p s m args c bytes maxL y.cls → EV D a e0 A s s.heap → HX D a x e0 A σ s.heap s.heap [] → lv_has ls maxL (lv_args 0 av) → (∀ (pc : Nat) (ls : Array Slot) (H : Heap) (locs : List Loc) (σ' : XS), HX D a x e0 A σ' s.heap H locs → decode bytes pc = .ok (.return_, 1) → F nq = .ok ((), σ') → W p l e R s m args below meth c H locs mc ms Q (F0 m pc ls [])) → (∀ {pc : Nat} {ls : Array Slot} {rest : List Value} {cells slots : Nat} {k ik is ic sa : Nat} {text : String}, THR ik ic (exN k) → vk_R RX10 is text sa s → ls.size = c.maxLocals → decode bytes pc = .ok (.new ik, 3) → decode bytes (pc + 3) = .ok (.dup, 1) → (decode bytes (pc + 4) = .ok (.ldc is, 2) ∧ decode bytes (pc + 6) = .ok (.invokespecial ic, 3) ∧ decode bytes (pc + 9) = .ok (.athrow, 1) ∨ decode bytes (pc + 4) = .ok (.ldc_w is, 3) ∧ decode bytes (pc + 7) = .ok (.invokespecial ic, 3) ∧ decode bytes (pc + 10) = .ok (.athrow, 1)) → 5 < R.frames → (rest.map fun v => v.category).sum + 82 ≤ R.locals → cells + 1 ≤ mc → slots + 6 ≤ ms → F nq = .error k → W p l e R s m args below meth c s.heap [] cells slots Q (F0 m pc ls rest)) → (∀ {pc : Nat} {ls : Array Slot} {rest : List Value} {cells slots : Nat} {k : Nat} {E : String} {ce : Cell} {q : Nat} {H1 : Heap}, E = exN k → H1[q]? = some ce → ce.vm = .none → s.vm.findClass E = some ce.cls → s.heap.size ≤ H1.size → (∀ z, z < s.heap.size → H1[z]? = s.heap[z]?) → cells ≤ mc → slots ≤ ms → F nq = .error k → vx_W p l e R s m args below meth c H1 [] cells slots Q (F0 m pc ls rest) q) → W p l e R s m args below meth c s.heap [] 0 0 Q (F0 m 0 ls [])) : KTm l D a x e0 A y bytes maxL none fr lo mc ms av σ (fun _ => none) F := by
  refine vx_ofW (cc := bytes) (maxL := maxL) (ret := none) hy rfl ?_
  intro p e s m args below meth c s₁ B' hml ht hv
  obtain ⟨rfl, hE, hP⟩ := hv
  have C : Cx D a p s m av.toArray c bytes maxL y.cls := ⟨⟨B'.exec, B'.bytes, hml, findClass_of_methodNamed B'.named, fun w h => atoms_spec (ws := .code y bytes maxL none :: TB) B'.pre w (List.mem_cons_of_mem _ h)⟩, hE.1⟩
  have hl := lv_entry av (n := maxL) hlen
  have hr := B'.returns
  have hk := B'.notSynchronized
  have hts := C.1.2.2.2.2
  have hown : s.vm.findClass RX10 = some m.cls := hy10 ▸ C.1.2.2.2.1
  rw [lg_entry_eq]
  refine body p e s m _ below meth c _ _ _ s.heap.size rfl rfl rfl rfl rfl C hE ⟨hP, va_S.rf⟩ hl ?_ ?_ ?_
  · intro pc ls H locs σ' hM hdg hf
    exact vx_ret (W.vret C.1.1 C.1.2.1 hr (fun t ht _ => ⟨⟨_, _, hf, rfl, by rw [ht]; exact hM.1⟩, hM.2.F ht⟩) hM.2.2.2 hdg hk)
  · intro pc ls rest cells slots k ik is ic sa text hT hsr hsz d0 d3 hd hfr hlo hc hs hF
    rcases hd with ⟨d4, d6, d9⟩ | ⟨d4, d7, d10⟩
    · exact vx_throwS (names := exNames) (A := A) C.1.1 C.1.2.1 hfl hown hT.2.2.2.2.2 (by decide +kernel) (hts _ hT.1) (hts _ hT.2.1) hsr (thr_hat hT hts hE.2.1) (thr_ot hT) hE.2.2.2.1 hE.2.2.2.2.1 va_S.rf hsz d0 d3 d4 d6 d9 (fun z hz => (ht z hz).elim) (by show 2 + 3 < _; exact hfr) (by show _ + (13 * (2 + 1) + 43) ≤ _; exact hlo) (Nat.le_trans hc (Nat.le_refl _)) (Nat.le_trans hs (Nat.le_refl _)) hk (fun t _ hz hq => ⟨_, by rw [hF]; rfl, rfl, hz, hq⟩) (fun _ h => nomatch h) hc hs
    · exact vx_throwSW (names := exNames) (A := A) C.1.1 C.1.2.1 hfl hown hT.2.2.2.2.2 (by decide +kernel) (hts _ hT.1) (hts _ hT.2.1) hsr (thr_hat hT hts hE.2.1) (thr_ot hT) hE.2.2.2.1 hE.2.2.2.2.1 va_S.rf hsz d0 d3 d4 d7 d10 (fun z hz => (ht z hz).elim) (by show 2 + 3 < _; exact hfr) (by show _ + (13 * (2 + 1) + 43) ≤ _; exact hlo) (Nat.le_trans hc (Nat.le_refl _)) (Nat.le_trans hs (Nat.le_refl _)) hk (fun t _ hz hq => ⟨_, by rw [hF]; rfl, rfl, hz, hq⟩) (fun _ h => nomatch h) hc hs
  · intro pc ls rest cells slots k E ce q H1 hE1 hq hv hcl hz hkp hc hs hF
    exact vx_out (fun z hz => (ht z hz).elim) hk hq hv hcl (fun t ht _ => ⟨_, by rw [hF]; rfl, hE1, by rw [ht]; exact hz, fun z h => by rw [ht]; exact hkp z h⟩) (fun _ h => nomatch h) hc hs

end XCON

