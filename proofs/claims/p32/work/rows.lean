section
-- ===== PART A: goes FIRST, ahead of the names: the tables' words, and 'selects' of the private methods out of them =====
/-- a private method of a class that the tables say can be made, by its rows of tables_1 -/
def lw_okq (q : MethodName × Nat) : Prop := (q.1.cls ≠ "java/lang/invoke/MethodHandle" ∧ q.1.cls ≠ "java/lang/invoke/VarHandle") ∧ Cond.instantiable q.1.cls q.2 ∈ tables_1 ∧ Cond.privateMethod q.1 ∈ tables_1 ∧ Cond.instanceMethod q.1 ∈ tables_1
theorem lw_p0 : lw_okq (⟨"java/util/ArrayList", "add", "(Ljava/lang/Object;[Ljava/lang/Object;I)V"⟩, 3) := ⟨⟨by decide +kernel, by decide +kernel⟩, List.mem_of_getElem? (i := 34) (by decide +kernel), List.mem_of_getElem? (i := 157) (by decide +kernel), List.mem_of_getElem? (i := 158) (by decide +kernel)⟩
theorem lw_p1 : lw_okq (⟨"java/util/ArrayList", "grow", "()[Ljava/lang/Object;"⟩, 3) := ⟨⟨by decide +kernel, by decide +kernel⟩, List.mem_of_getElem? (i := 34) (by decide +kernel), List.mem_of_getElem? (i := 161) (by decide +kernel), List.mem_of_getElem? (i := 162) (by decide +kernel)⟩
theorem lw_p2 : lw_okq (⟨"java/util/ArrayList", "grow", "(I)[Ljava/lang/Object;"⟩, 3) := ⟨⟨by decide +kernel, by decide +kernel⟩, List.mem_of_getElem? (i := 34) (by decide +kernel), List.mem_of_getElem? (i := 165) (by decide +kernel), List.mem_of_getElem? (i := 166) (by decide +kernel)⟩
theorem lw_p3 : lw_okq (⟨"java/lang/Throwable", "fillInStackTrace", "(I)Ljava/lang/Throwable;"⟩, 6) := ⟨⟨by decide +kernel, by decide +kernel⟩, List.mem_of_getElem? (i := 304) (by decide +kernel), List.mem_of_getElem? (i := 302) (by decide +kernel), List.mem_of_getElem? (i := 303) (by decide +kernel)⟩
theorem lw_p4 : lw_okq (⟨"FireNet", "existingCamera", "(I)LFireNet$Camera;"⟩, 14) := ⟨⟨by decide +kernel, by decide +kernel⟩, List.mem_of_getElem? (i := 26) (by decide +kernel), List.mem_of_getElem? (i := 383) (by decide +kernel), List.mem_of_getElem? (i := 384) (by decide +kernel)⟩
theorem lw_p5 : lw_okq (⟨"FireNet", "gatherFireballs", "()V"⟩, 14) := ⟨⟨by decide +kernel, by decide +kernel⟩, List.mem_of_getElem? (i := 26) (by decide +kernel), List.mem_of_getElem? (i := 422) (by decide +kernel), List.mem_of_getElem? (i := 423) (by decide +kernel)⟩
theorem lw_p6 : lw_okq (⟨"FireNet", "joinSightings", "()V"⟩, 14) := ⟨⟨by decide +kernel, by decide +kernel⟩, List.mem_of_getElem? (i := 26) (by decide +kernel), List.mem_of_getElem? (i := 430) (by decide +kernel), List.mem_of_getElem? (i := 431) (by decide +kernel)⟩
theorem lw_p7 : lw_okq (⟨"FireNet", "doJoin", "(LFireNet$Sighting;LFireNet$Sighting;)Z"⟩, 14) := ⟨⟨by decide +kernel, by decide +kernel⟩, List.mem_of_getElem? (i := 26) (by decide +kernel), List.mem_of_getElem? (i := 435) (by decide +kernel), List.mem_of_getElem? (i := 436) (by decide +kernel)⟩
theorem lw_p8 : lw_okq (⟨"FireNet", "gatherInto", "(LFireNet$Fireball;I)V"⟩, 14) := ⟨⟨by decide +kernel, by decide +kernel⟩, List.mem_of_getElem? (i := 26) (by decide +kernel), List.mem_of_getElem? (i := 470) (by decide +kernel), List.mem_of_getElem? (i := 471) (by decide +kernel)⟩
theorem lw_p9 : lw_okq (⟨"FireNet", "groupOf", "(I)J"⟩, 14) := ⟨⟨by decide +kernel, by decide +kernel⟩, List.mem_of_getElem? (i := 26) (by decide +kernel), List.mem_of_getElem? (i := 474) (by decide +kernel), List.mem_of_getElem? (i := 475) (by decide +kernel)⟩
theorem lw_p10 : lw_okq (⟨"FireNet", "addPlaces", "(LFireNet$Fireball;LFireNet$Sighting;I)V"⟩, 14) := ⟨⟨by decide +kernel, by decide +kernel⟩, List.mem_of_getElem? (i := 26) (by decide +kernel), List.mem_of_getElem? (i := 488) (by decide +kernel), List.mem_of_getElem? (i := 489) (by decide +kernel)⟩
theorem lw_p11 : lw_okq (⟨"FireNet", "isCloudy", "(LFireNet$Camera;I)Z"⟩, 14) := ⟨⟨by decide +kernel, by decide +kernel⟩, List.mem_of_getElem? (i := 26) (by decide +kernel), List.mem_of_getElem? (i := 525) (by decide +kernel), List.mem_of_getElem? (i := 526) (by decide +kernel)⟩
theorem lw_p12 : lw_okq (⟨"FireNet", "cloudyNights", "(LFireNet$Camera;II)I"⟩, 14) := ⟨⟨by decide +kernel, by decide +kernel⟩, List.mem_of_getElem? (i := 26) (by decide +kernel), List.mem_of_getElem? (i := 529) (by decide +kernel), List.mem_of_getElem? (i := 530) (by decide +kernel)⟩
theorem lw_p13 : lw_okq (⟨"FireNet", "windOf", "(I)LFireNet$Wind;"⟩, 14) := ⟨⟨by decide +kernel, by decide +kernel⟩, List.mem_of_getElem? (i := 26) (by decide +kernel), List.mem_of_getElem? (i := 603) (by decide +kernel), List.mem_of_getElem? (i := 604) (by decide +kernel)⟩
theorem lw_p14 : lw_okq (⟨"FireNet", "existingFireball", "(I)LFireNet$Fireball;"⟩, 14) := ⟨⟨by decide +kernel, by decide +kernel⟩, List.mem_of_getElem? (i := 26) (by decide +kernel), List.mem_of_getElem? (i := 629) (by decide +kernel), List.mem_of_getElem? (i := 630) (by decide +kernel)⟩
theorem lw_p15 : lw_okq (⟨"FireNet", "wasWalked", "(III)Z"⟩, 14) := ⟨⟨by decide +kernel, by decide +kernel⟩, List.mem_of_getElem? (i := 26) (by decide +kernel), List.mem_of_getElem? (i := 641) (by decide +kernel), List.mem_of_getElem? (i := 642) (by decide +kernel)⟩
def lw_privs_1 : List (MethodName × Nat) := [(⟨"java/util/ArrayList", "add", "(Ljava/lang/Object;[Ljava/lang/Object;I)V"⟩, 3), (⟨"java/util/ArrayList", "grow", "()[Ljava/lang/Object;"⟩, 3), (⟨"java/util/ArrayList", "grow", "(I)[Ljava/lang/Object;"⟩, 3), (⟨"java/lang/Throwable", "fillInStackTrace", "(I)Ljava/lang/Throwable;"⟩, 6), (⟨"FireNet", "existingCamera", "(I)LFireNet$Camera;"⟩, 14), (⟨"FireNet", "gatherFireballs", "()V"⟩, 14), (⟨"FireNet", "joinSightings", "()V"⟩, 14), (⟨"FireNet", "doJoin", "(LFireNet$Sighting;LFireNet$Sighting;)Z"⟩, 14), (⟨"FireNet", "gatherInto", "(LFireNet$Fireball;I)V"⟩, 14), (⟨"FireNet", "groupOf", "(I)J"⟩, 14), (⟨"FireNet", "addPlaces", "(LFireNet$Fireball;LFireNet$Sighting;I)V"⟩, 14), (⟨"FireNet", "isCloudy", "(LFireNet$Camera;I)Z"⟩, 14), (⟨"FireNet", "cloudyNights", "(LFireNet$Camera;II)I"⟩, 14), (⟨"FireNet", "windOf", "(I)LFireNet$Wind;"⟩, 14), (⟨"FireNet", "existingFireball", "(I)LFireNet$Fireball;"⟩, 14), (⟨"FireNet", "wasWalked", "(III)Z"⟩, 14)]
theorem lw_r1 : ∀ q ∈ lw_privs_1, lw_okq q := List.forall_mem_cons.mpr ⟨lw_p0, List.forall_mem_cons.mpr ⟨lw_p1, List.forall_mem_cons.mpr ⟨lw_p2, List.forall_mem_cons.mpr ⟨lw_p3, List.forall_mem_cons.mpr ⟨lw_p4, List.forall_mem_cons.mpr ⟨lw_p5, List.forall_mem_cons.mpr ⟨lw_p6, List.forall_mem_cons.mpr ⟨lw_p7, List.forall_mem_cons.mpr ⟨lw_p8, List.forall_mem_cons.mpr ⟨lw_p9, List.forall_mem_cons.mpr ⟨lw_p10, List.forall_mem_cons.mpr ⟨lw_p11, List.forall_mem_cons.mpr ⟨lw_p12, List.forall_mem_cons.mpr ⟨lw_p13, List.forall_mem_cons.mpr ⟨lw_p14, List.forall_mem_cons.mpr ⟨lw_p15, fun _ h => absurd h List.not_mem_nil⟩⟩⟩⟩⟩⟩⟩⟩⟩⟩⟩⟩⟩⟩⟩⟩
theorem lw_p16 : lw_okq (⟨"FireNet", "chanceIn", "(LFireNet$Fireball;III)J"⟩, 14) := ⟨⟨by decide +kernel, by decide +kernel⟩, List.mem_of_getElem? (i := 26) (by decide +kernel), List.mem_of_getElem? (i := 674) (by decide +kernel), List.mem_of_getElem? (i := 675) (by decide +kernel)⟩
theorem lw_p17 : lw_okq (⟨"FireNet", "weightLeft", "(JIII)J"⟩, 14) := ⟨⟨by decide +kernel, by decide +kernel⟩, List.mem_of_getElem? (i := 26) (by decide +kernel), List.mem_of_getElem? (i := 702) (by decide +kernel), List.mem_of_getElem? (i := 703) (by decide +kernel)⟩
theorem lw_p18 : lw_okq (⟨"FireNet", "weightOfGround", "(I)J"⟩, 14) := ⟨⟨by decide +kernel, by decide +kernel⟩, List.mem_of_getElem? (i := 26) (by decide +kernel), List.mem_of_getElem? (i := 708) (by decide +kernel), List.mem_of_getElem? (i := 709) (by decide +kernel)⟩
theorem lw_p19 : lw_okq (⟨"FireNet", "lawIn", "(I)I"⟩, 14) := ⟨⟨by decide +kernel, by decide +kernel⟩, List.mem_of_getElem? (i := 26) (by decide +kernel), List.mem_of_getElem? (i := 733) (by decide +kernel), List.mem_of_getElem? (i := 734) (by decide +kernel)⟩
theorem lw_p20 : lw_okq (⟨"FireNet", "existingStone", "(I)LFireNet$Stone;"⟩, 14) := ⟨⟨by decide +kernel, by decide +kernel⟩, List.mem_of_getElem? (i := 26) (by decide +kernel), List.mem_of_getElem? (i := 795) (by decide +kernel), List.mem_of_getElem? (i := 796) (by decide +kernel)⟩
theorem lw_p21 : lw_okq (⟨"FireNet", "fallOf", "(LFireNet$Stone;)I"⟩, 14) := ⟨⟨by decide +kernel, by decide +kernel⟩, List.mem_of_getElem? (i := 26) (by decide +kernel), List.mem_of_getElem? (i := 800) (by decide +kernel), List.mem_of_getElem? (i := 801) (by decide +kernel)⟩
theorem lw_p22 : lw_okq (⟨"FireNet", "existingSighting", "(I)LFireNet$Sighting;"⟩, 14) := ⟨⟨by decide +kernel, by decide +kernel⟩, List.mem_of_getElem? (i := 26) (by decide +kernel), List.mem_of_getElem? (i := 849) (by decide +kernel), List.mem_of_getElem? (i := 850) (by decide +kernel)⟩
theorem lw_p23 : lw_okq (⟨"FireNet", "spreadLowest", "()Z"⟩, 14) := ⟨⟨by decide +kernel, by decide +kernel⟩, List.mem_of_getElem? (i := 26) (by decide +kernel), List.mem_of_getElem? (i := 858) (by decide +kernel), List.mem_of_getElem? (i := 859) (by decide +kernel)⟩
theorem lw_p24 : lw_okq (⟨"FireNet", "countFireballs", "(III)I"⟩, 14) := ⟨⟨by decide +kernel, by decide +kernel⟩, List.mem_of_getElem? (i := 26) (by decide +kernel), List.mem_of_getElem? (i := 866) (by decide +kernel), List.mem_of_getElem? (i := 867) (by decide +kernel)⟩
def lw_privs_2 : List (MethodName × Nat) := [(⟨"FireNet", "chanceIn", "(LFireNet$Fireball;III)J"⟩, 14), (⟨"FireNet", "weightLeft", "(JIII)J"⟩, 14), (⟨"FireNet", "weightOfGround", "(I)J"⟩, 14), (⟨"FireNet", "lawIn", "(I)I"⟩, 14), (⟨"FireNet", "existingStone", "(I)LFireNet$Stone;"⟩, 14), (⟨"FireNet", "fallOf", "(LFireNet$Stone;)I"⟩, 14), (⟨"FireNet", "existingSighting", "(I)LFireNet$Sighting;"⟩, 14), (⟨"FireNet", "spreadLowest", "()Z"⟩, 14), (⟨"FireNet", "countFireballs", "(III)I"⟩, 14)]
theorem lw_r2 : ∀ q ∈ lw_privs_2, lw_okq q := List.forall_mem_cons.mpr ⟨lw_p16, List.forall_mem_cons.mpr ⟨lw_p17, List.forall_mem_cons.mpr ⟨lw_p18, List.forall_mem_cons.mpr ⟨lw_p19, List.forall_mem_cons.mpr ⟨lw_p20, List.forall_mem_cons.mpr ⟨lw_p21, List.forall_mem_cons.mpr ⟨lw_p22, List.forall_mem_cons.mpr ⟨lw_p23, List.forall_mem_cons.mpr ⟨lw_p24, fun _ h => absurd h List.not_mem_nil⟩⟩⟩⟩⟩⟩⟩⟩⟩
def lw_privs : List (MethodName × Nat) := lw_privs_1 ++ (lw_privs_2)
def lw_tbl : List Cond := k2_sels lw_privs ++ tables_1
theorem lw_privs_ok : ∀ q ∈ lw_privs, lw_okq q := by
  show ∀ q ∈ lw_privs_1 ++ (lw_privs_2), lw_okq q
  exact List.forall_mem_append.mpr ⟨lw_r1, lw_r2⟩
end
section
/-! ===== BEGIN words of one list among another's, by their places ===== -/
theorem goodIn_r {big : List Cond} (ws : List Cond) (ps : List Nat) (hp : ws = ps.filterMap (fun i => big[i]?)) (h : ws.all goodWord = true) : GoodIn big ws := by
  intro w hw
  have h1 := List.all_eq_true.mp h w hw
  rw [hp] at hw
  obtain ⟨i, -, hi⟩ := List.mem_filterMap.mp hw
  have hm : w ∈ big := by first | exact List.mem_of_getElem? hi | exact List.getElem?_mem hi
  exact ⟨hm, good_of_word h1⟩
theorem goodIn_app {big a b : List Cond} (ha : GoodIn big a) (hb : GoodIn big b) : GoodIn big (a ++ b) := fun w h => (List.mem_append.mp h).elim (ha w) (hb w)
theorem goodIn_ca {big a b : List Cond} {c : Cond} (ha : GoodIn big (c :: a)) (hb : GoodIn big b) : GoodIn big (c :: (a ++ b)) := fun w h => (List.mem_cons.mp h).elim (fun e => ha w (List.mem_cons.mpr (Or.inl e))) (fun h => (List.mem_append.mp h).elim (fun h => ha w (List.mem_cons.mpr (Or.inr h))) (hb w))
theorem goodIn_sub {big ws : List Cond} (hm : ∀ w ∈ ws, w ∈ big) (h : ws.all goodWord = true) : GoodIn big ws := fun w hw => ⟨hm w hw, good_of_word (List.all_eq_true.mp h w hw)⟩
/-! ===== END ===== -/

/-! ===== BEGIN exceptions that leave a method, and their catching by the caller (launches without stack traces) ===== -/
section VXA
/-! The laws vx_back, vx_callV, vx_callS, vx_callSW, vx_throw0, vx_throwS follow proofs of the library, with one case more: JvmDerived/Free/Laws.lean (Back.of_free), Shelf42/LK1.lean (callV, callS), Shelf/KitTraced.lean (throwNew0V, throwNewS). -/
/-- where a method has thrown q: the class by its name, the cell, what was written, the world -/
def vx_T (XC : String → State → State → Prop) (st : State) (q : Addr) (t : State) (mc ms : Nat) (free : Addr → Prop) : Prop :=
  ∃ (E : String) (ce : Cell) (L : List Loc), XC E st t ∧ t.heap[q]? = some ce ∧ ce.vm = .none ∧ st.vm.findClass E = some ce.cls ∧ st.WarmedH t.vm ∧ st.sameButNew ({ t with vm := st.vm } : State) L mc ms ∧ ∀ z ∈ L, free z.base
def vx_Q (Qc : Array Value → State → Outcome → State → Prop) (XC : String → State → State → Prop) (mc ms : Nat) (free : Addr → Prop) : Array Value → State → Outcome → State → Prop := fun a st o t =>
  (Qc a st o t ∧ ∃ L, FrameEnd st o t L mc ms ∧ ∀ q ∈ L, free q.base) ∨ ∃ q, o = .threw q ∧ vx_T XC st q t mc ms free
/-- a callee that returns or throws -/
def vx_Met (l : Launch) (y : MethodName) (ws : List Cond) (rm : Room) (Pc : Array Value → State → Prop) (Qc : Array Value → State → Outcome → State → Prop) (XC : String → State → State → Prop) (mc ms : Nat) (free : Addr → Prop) : Prop :=
  MetFree l y (headSpec ws rm) Pc (fun _ _ _ _ _ => True) (vx_Q Qc XC mc ms free)
def vx_Post (XC : String → State → State → Prop) (mc ms : Nat) (free : Addr → Prop) : Pt → Array Value → Addr → Pt → Prop := fun A a q B =>
  ∃ (g : JFrame) (mk : MethodId) (t : State) (L : List Loc) (E : String) (ce : Cell), B.U.heap = t.heap ∧ B.U.vm = t.vm ∧ XC E (A.U.calling g mk a) t ∧ t.heap[q]? = some ce ∧ ce.vm = .none ∧ A.U.vm.findClass E = some ce.cls ∧ B.locs = A.locs ++ L ∧ (∀ z ∈ L, free z.base) ∧ B.cells = A.cells + mc ∧ B.slots = A.slots + ms
def vx_Back (l : Launch) (R : Room) (p : Program) (e : Env) (below : List Frame) (s : State) (sargs : Array Value) (y : MethodName) (len W9 : Nat)
    (Pre : Pt → Array Value → Prop) (Post : Pt → Array Value → Option Value → Pt → Prop) (PostX : Pt → Array Value → Addr → Pt → Prop) : Prop :=
  ∀ (m : MethodId) (meth : Method) (c : Code) (A : Pt) (g : JFrame) (ig : Instr) (mk : MethodId) (a : Array Value),
    Stand p l e R s m sargs below meth c A.U A.locs A.cells A.slots → g.method = m → g.locals.size = c.maxLocals → decode c.code g.pc = .ok (ig, len) →
    2 * g.monitorRoom + (g.stack.map fun v => v.category).sum ≤ W9 → A.U.methodNamed? y = some mk → Pre A a →
    (∃ (v : Option Value) (B : Pt), Stand p l e R s m sargs below meth c B.U B.locs B.cells B.slots ∧ Post A a v B ∧
      Steps p.tables e below (doInvoke e (A.U.setTop g) [] mk a).1 (B.U.setTop { g with pc := g.pc + len, stack := v.toList ++ g.stack })) ∨
    (∃ (q : Addr) (B : Pt), Stand p l e R s m sargs below meth c B.U B.locs B.cells B.slots ∧ PostX A a q B ∧
      Steps p.tables e below (doInvoke e (A.U.setTop g) [] mk a).1 ((B.U.setTop g).pushFrame (.throwing q)))
section Payer
variable {l : Launch} {R : Room} {p : Program} {e : Env} {below : List Frame} {s : State} {sargs : Array Value} {y : MethodName} {len W9 : Nat}
theorem vx_back {ws : List Cond} {rm : Room} {Pc : Array Value → State → Prop} {Qc : Array Value → State → Outcome → State → Prop} {XC : String → State → State → Prop} {mc ms : Nat} {free : Addr → Prop} {bytes : ByteArray} {maxL : Nat} {ret : Option FieldType}
    (hM : vx_Met l y ws rm Pc Qc XC mc ms free) (hblind : FrameBlind Pc) (hrc : rm.cells = mc) (hrs : rm.slots = ms)
    (hframes : rm.frames + 1 ≤ R.frames) (hlocals : W9 + (maxL + 11) + rm.locals ≤ R.locals)
    (hws : ∀ w ∈ ws, ∀ a' U, s.WarmedH U.vm → w.before a' U = true) (hcode : Cond.code y bytes maxL ret ∈ ws) (hinit : ∀ a' U, s.WarmedH U.vm → (Cond.initialized y.cls).before a' U = true) :
    vx_Back l R p e below s sargs y len W9 (PreOf R mc ms Pc) (PostOf Qc mc ms free) (vx_Post XC mc ms free) := by
  intro m meth c A g ig mk a X hg hsize hdg hW hn hp
  have h1 : (headSpec ws rm).pre.before a A.U = true := atoms_intro fun w hw => hws w hw _ _ X.warmed
  have h2 : (Cond.code y bytes maxL ret).before a A.U = true := hws _ hcode _ _ X.warmed
  have h3 : (Cond.initialized y.cls).before a A.U = true := hinit _ _ X.warmed
  have h4 : A.cells + (headSpec ws rm).room.cells ≤ R.cells := by rw [show (headSpec ws rm).room.cells = mc from hrc]; exact hp.1
  have h5 : A.slots + (headSpec ws rm).room.slots ≤ R.slots := by rw [show (headSpec ws rm).room.slots = ms from hrs]; exact hp.2.1
  have hPc : Pc a (A.U.calling g mk a) := hblind _ _ _ _ hp.2.2
  obtain ⟨U, Ls, c0, s0⟩ := A
  dsimp only [Pt.U, Pt.locs, Pt.cells, Pt.slots] at h1 h2 h3 h4 h5 X hn hPc ⊢
  obtain ⟨methY, cY, hmY, hcY, -, hlY, -, -, -, -⟩ := Cond.code_spec hn h2
  obtain ⟨kY, hkY, -⟩ := className_of_methodNamed hn
  have hinitY : kY.init = .initialized := Cond.initialized_spec (findClass_of_methodNamed hn) hkY h3
  have h : At U g.method c below := by rw [hg]; exact X.here
  have hlocals9 : W9 + (maxL + 11) + (headSpec ws rm).room.locals ≤ R.locals := hlocals
  have happ : (headSpec ws rm).appliesLoose y e.platform (U.calling g mk a) = true :=
    Spec.appliesLoose_calling (g := g) h hdg hn hkY hinitY
      (X.room_calling (g := g) (R' := (headSpec ws rm).room) hsize hmY hcY hframes (by rw [hlY]; omega) h4 h5) h1
  obtain ⟨mid, hmid⟩ := h.above
  have hfr : (U.setTop g).frames = (.java g :: mid) ++ below := by rw [State.frames_setTop' g h.top, hmid]; rfl
  obtain ⟨o, s₂, hsteps, -, hend, hq⟩ := Steps.callFree hM p X.admits X.cas X.clock (acts := []) hfr happ hPc trivial
  have hq' : vx_Q Qc XC mc ms free a (U.calling g mk a) o s₂ := hq
  rw [State.frames_setTop' g h.top] at hend
  obtain ⟨g₀, hg0⟩ := Option.isSome_iff_exists.mp h.top
  obtain ⟨r, hr⟩ := State.topJava?_eq_some.mp hg0
  have hr' : (({ U with heap := s₂.heap, slotsUsed := s₂.slotsUsed } : State).setVm s₂.vm).frames = .java g₀ :: r := hr
  rcases hq' with ⟨hqc, L, hfe, hL⟩ | ⟨q, rfl, E, ce, L, hx, hce, hcv, hcl, hW₂, hsm, hL⟩
  · obtain ⟨⟨v, rfl⟩, hW₂, e2, q2, q3, q4, q5, q6⟩ := id hfe
    have e3 : s₂ = ({ (U.calling g mk a).setFrames s₂.frames with heap := s₂.heap, slotsUsed := s₂.slotsUsed } : State).setVm s₂.vm := by
      have : s₂ = ({ s₂ with vm := (U.calling g mk a).vm } : State).setVm s₂.vm := rfl
      rw [e2] at this
      exact this
    obtain ⟨c₂, i₂, len₂, hc₂, hd₂, hf₂⟩ := hend
    have hW' : U.WarmedH s₂.vm := hW₂
    have hcc : c₂ = c := by
      have h1 : s₂.code? g.method = U.code? g.method := by
        rw [State.code?_eq, State.code?_eq, hW'.alike.method?]
      exact Option.some.inj (hc₂.symm.trans (h1.trans h.code))
    subst hcc
    have hlen : len₂ = len := by rw [hdg] at hd₂; cases hd₂; rfl
    subst hlen
    have hs₂ : s₂ = (({ U with heap := s₂.heap, slotsUsed := s₂.slotsUsed } : State).setVm s₂.vm).setTop { g with pc := g.pc + len₂, stack := v.toList ++ g.stack } := by
      refine e3.trans ?_
      rw [hf₂, State.calling_eq h.top, State.setFrames_setFrames, State.setTop_of_frames _ hr', hr]
      rfl
    have hsame : U.sameButNew ({ U with heap := s₂.heap, slotsUsed := s₂.slotsUsed } : State) L mc ms := by
      refine ⟨?_, q2, q3, q4, q5, q6⟩
      obtain ⟨t, ht, -⟩ := State.frames_cons hr
      show ({ U with heap := s₂.heap, slotsUsed := s₂.slotsUsed } : State) = { U.setFrames U.frames with heap := s₂.heap, slotsUsed := s₂.slotsUsed }
      rw [State.setFrames_self ht]
    subst hg
    refine Or.inl ⟨v, ⟨(({ U with heap := s₂.heap, slotsUsed := s₂.slotsUsed } : State).setVm s₂.vm), Ls ++ L, c0 + mc, s0 + ms⟩,
      ⟨X.admits, X.cas, X.clock, X.frames, X.room, X.hears, X.method, X.code, (X.here.setHeapUsed s₂.heap s₂.slotsUsed).setVm hW'.alike, X.tail, State.WarmedH.trans X.warmed hW', X.limits, X.bytes, X.same.trans (hsame.setVm s.vm)⟩,
      ⟨g, mk, s₂, L, rfl, rfl, hqc, rfl, hL, rfl, rfl⟩, ?_⟩
    show Steps p.tables e below _ ((({ U with heap := s₂.heap, slotsUsed := s₂.slotsUsed } : State).setVm s₂.vm).setTop { g with pc := g.pc + len₂, stack := v.toList ++ g.stack })
    rw [← hs₂]
    exact hsteps
  · obtain ⟨e2, q2, q3, q4, q5, q6⟩ := id hsm
    have e3 : s₂ = ({ (U.calling g mk a).setFrames s₂.frames with heap := s₂.heap, slotsUsed := s₂.slotsUsed } : State).setVm s₂.vm := by
      have : s₂ = ({ s₂ with vm := (U.calling g mk a).vm } : State).setVm s₂.vm := rfl
      rw [e2] at this
      exact this
    have hf₂ : s₂.frames = .throwing q :: .java g :: U.frames.tail := hend
    have hW' : U.WarmedH s₂.vm := hW₂
    have hs₂ : s₂ = ((({ U with heap := s₂.heap, slotsUsed := s₂.slotsUsed } : State).setVm s₂.vm).setTop g).pushFrame (.throwing q) := by
      refine e3.trans ?_
      rw [hf₂, State.calling_eq h.top, State.setFrames_setFrames, State.pushFrame, State.frames_setTop _ hr', State.setTop_of_frames _ hr', State.setFrames_setFrames, hr]
      rfl
    have hsame : U.sameButNew ({ U with heap := s₂.heap, slotsUsed := s₂.slotsUsed } : State) L mc ms := by
      refine ⟨?_, q2, q3, q4, q5, q6⟩
      obtain ⟨t, ht, -⟩ := State.frames_cons hr
      show ({ U with heap := s₂.heap, slotsUsed := s₂.slotsUsed } : State) = { U.setFrames U.frames with heap := s₂.heap, slotsUsed := s₂.slotsUsed }
      rw [State.setFrames_self ht]
    subst hg
    refine Or.inr ⟨q, ⟨(({ U with heap := s₂.heap, slotsUsed := s₂.slotsUsed } : State).setVm s₂.vm), Ls ++ L, c0 + mc, s0 + ms⟩,
      ⟨X.admits, X.cas, X.clock, X.frames, X.room, X.hears, X.method, X.code, (X.here.setHeapUsed s₂.heap s₂.slotsUsed).setVm hW'.alike, X.tail, State.WarmedH.trans X.warmed hW', X.limits, X.bytes, X.same.trans (hsame.setVm s.vm)⟩,
      ⟨g, mk, s₂, L, E, ce, rfl, rfl, hx, hce, hcv, hcl, rfl, hL, rfl, rfl⟩, ?_⟩
    show Steps p.tables e below _ (((({ U with heap := s₂.heap, slotsUsed := s₂.slotsUsed } : State).setVm s₂.vm).setTop g).pushFrame (.throwing q))
    rw [← hs₂]
    exact hsteps
end Payer
section Calls
variable {p : Program} {l : Launch} {e : Env} {R : Room} {s : State} {m : MethodId} {args : Array Value} {below : List Frame} {meth : Method} {c : Code} {T : State} {locs : List Loc} {cells slots : Nat}
theorem vx_callV (X : Stand p l e R s m args below meth c T locs cells slots) (hexec : p.tables.exec = Jvm.exec) {own C : String} {index : Nat} {y : MethodName} {bytes : ByteArray} {maxL : Nat} {ret : Option FieldType}
    (hown : s.vm.findClass own = some m.cls) (hlink : (Cond.methodLink own index y).before args s = true) (hinst : (Cond.instanceMethod y).before args s = true) (hsel : (Cond.selects C y y).before args s = true)
    (hcode : (Cond.code y bytes maxL ret).before args s = true) (hy : y.cls ≠ "java/lang/invoke/MethodHandle" ∧ y.cls ≠ "java/lang/invoke/VarHandle")
    {W9 : Nat} {Pre : Pt → Array Value → Prop} {Post : Pt → Array Value → Option Value → Pt → Prop} {PostX : Pt → Array Value → Addr → Pt → Prop} (hK : vx_Back l R p e below s args y 3 W9 Pre Post PostX)
    {b : Addr} {cellB : Cell} (hcell : T.heap[b]? = some cellB) (hobj : cellB.vm.isStatics = false) (hcls : s.vm.findClass C = some cellB.cls)
    {g : JFrame} (hg : g.method = m) (hsize : g.locals.size = c.maxLocals) {argsL rest : List Value} (hlen : ∀ sig, parseMethodDescriptor y.desc = some sig → argsL.length = sig.parameters.length)
    (hstack : g.stack = argsL.reverse ++ .ref b :: rest) (hW : 2 * g.monitorRoom + (rest.map fun v => v.category).sum ≤ W9) (hdg : decode c.code g.pc = .ok (.invokevirtual index, 3))
    (hpre : ∀ vm₁, s.WarmedH vm₁ → Pre ⟨T.setVm vm₁, locs, cells, slots⟩ (Value.ref b :: argsL).toArray) :
    (∃ (v : Option Value) (vm₁ : Vm) (B : Pt), s.WarmedH vm₁ ∧ Stand p l e R s m args below meth c B.U B.locs B.cells B.slots ∧ Post ⟨T.setVm vm₁, locs, cells, slots⟩ (Value.ref b :: argsL).toArray v B ∧
      ∀ target, Steps p.tables e below (B.U.setTop { g with pc := g.pc + 3, stack := v.toList ++ rest }) target → Steps p.tables e below (T.setTop g) target) ∨
    (∃ (q : Addr) (vm₁ : Vm) (B : Pt), s.WarmedH vm₁ ∧ Stand p l e R s m args below meth c B.U B.locs B.cells B.slots ∧ PostX ⟨T.setVm vm₁, locs, cells, slots⟩ (Value.ref b :: argsL).toArray q B ∧
      Steps p.tables e below (T.setTop g) ((B.U.setTop { g with stack := rest }).pushFrame (.throwing q))) := by
  obtain ⟨mk, methM, hnamed, hmethM, hstM, habM⟩ := Cond.instanceMethod_spec hinst
  obtain ⟨methM', cM, hmethM', -, -, -, -, -, -, hsigM⟩ := Cond.code_spec hnamed hcode
  cases hmethM.symm.trans hmethM'
  obtain ⟨c2, r2, m2, q1, q2, q3, q4, kP, hkP, hkPi⟩ := Cond.selects_spec hsel
  cases hcls.symm.trans q1
  cases (State.methodFound?_of_named hnamed hy).symm.trans q2
  cases hnamed.symm.trans q3
  have hselP : selectMethod e.platform s.vm cellB.cls mk = .method mk := by rw [Launch.admits_selectMethod X.admits]; exact q4
  obtain ⟨vm₁, X₁, hstep₁⟩ := X.invokevirtual hexec hown hlink hnamed hmethM hstM hkP hkPi hy (a := b) (cell := cellB) hcell
    (fun z h => by rw [h] at hobj; cases hobj) hselP hmethM habM hkP hkPi (g := g) hg (argsL := argsL) (rest := rest) (hlen _ hsigM) hstack hdg
  rcases hK m meth c ⟨T.setVm vm₁, locs, cells, slots⟩ { g with stack := rest } (.invokevirtual index) mk (Value.ref b :: argsL).toArray X₁ hg hsize hdg hW (X₁.named hnamed) (hpre vm₁ X₁.warmed) with ⟨v, B, X', hpost, hsteps⟩ | ⟨q, B, X', hpost, hsteps⟩
  · exact Or.inl ⟨v, vm₁, B, X₁.warmed, X', hpost, fun target h => hstep₁ _ fun acts => by rw [doInvoke_state]; exact hsteps.trans h⟩
  · exact Or.inr ⟨q, vm₁, B, X₁.warmed, X', hpost, hstep₁ _ fun acts => by rw [doInvoke_state]; exact hsteps⟩
theorem vx_callS (X : Stand p l e R s m args below meth c T locs cells slots) (hexec : p.tables.exec = Jvm.exec) {own : String} {index : Nat} {y : MethodName} {bytes : ByteArray} {maxL : Nat} {ret : Option FieldType}
    (hown : s.vm.findClass own = some m.cls) (hlink : (Cond.methodLink own index y).before args s = true) (hstat : (Cond.static y).before args s = true) (hinit : (Cond.initialized y.cls).before args s = true)
    (hcode : (Cond.code y bytes maxL ret).before args s = true) (hy : y.cls ≠ "java/lang/invoke/MethodHandle" ∧ y.cls ≠ "java/lang/invoke/VarHandle")
    {W9 : Nat} {Pre : Pt → Array Value → Prop} {Post : Pt → Array Value → Option Value → Pt → Prop} {PostX : Pt → Array Value → Addr → Pt → Prop} (hK : vx_Back l R p e below s args y 3 W9 Pre Post PostX)
    {g : JFrame} (hg : g.method = m) (hsize : g.locals.size = c.maxLocals) {argsL rest : List Value} (hlen : ∀ sig, parseMethodDescriptor y.desc = some sig → argsL.length = sig.parameters.length)
    (hstack : g.stack = argsL.reverse ++ rest) (hW : 2 * g.monitorRoom + (rest.map fun v => v.category).sum ≤ W9) (hdg : decode c.code g.pc = .ok (.invokestatic index, 3))
    (hpre : ∀ vm₁, s.WarmedH vm₁ → Pre ⟨T.setVm vm₁, locs, cells, slots⟩ argsL.toArray) :
    (∃ (v : Option Value) (vm₁ : Vm) (B : Pt), s.WarmedH vm₁ ∧ Stand p l e R s m args below meth c B.U B.locs B.cells B.slots ∧ Post ⟨T.setVm vm₁, locs, cells, slots⟩ argsL.toArray v B ∧
      ∀ target, Steps p.tables e below (B.U.setTop { g with pc := g.pc + 3, stack := v.toList ++ rest }) target → Steps p.tables e below (T.setTop g) target) ∨
    (∃ (q : Addr) (vm₁ : Vm) (B : Pt), s.WarmedH vm₁ ∧ Stand p l e R s m args below meth c B.U B.locs B.cells B.slots ∧ PostX ⟨T.setVm vm₁, locs, cells, slots⟩ argsL.toArray q B ∧
      Steps p.tables e below (T.setTop g) ((B.U.setTop { g with stack := rest }).pushFrame (.throwing q))) := by
  obtain ⟨mk, hnamed⟩ := Cond.code_named hcode
  obtain ⟨methM, cM, hmethM, -, -, -, -, -, -, hsigM⟩ := Cond.code_spec hnamed hcode
  have hstatic : methM.isStatic = true := Cond.static_spec hnamed hmethM hstat
  obtain ⟨kP, hkP, -⟩ := className_of_methodNamed hnamed
  have hinitP : kP.init = .initialized := Cond.initialized_spec (findClass_of_methodNamed hnamed) hkP hinit
  obtain ⟨vm₁, X₁, hstep₁⟩ := X.invokestatic hexec hown hlink hnamed hmethM hstatic hkP hinitP hy (g := g) hg (argsL := argsL) (rest := rest) (hlen _ hsigM) hstack hdg
  rcases hK m meth c ⟨T.setVm vm₁, locs, cells, slots⟩ { g with stack := rest } (.invokestatic index) mk argsL.toArray X₁ hg hsize hdg hW (X₁.named hnamed) (hpre vm₁ X₁.warmed) with ⟨v, B, X', hpost, hsteps⟩ | ⟨q, B, X', hpost, hsteps⟩
  · exact Or.inl ⟨v, vm₁, B, X₁.warmed, X', hpost, fun target h => hstep₁ _ fun acts => by rw [doInvoke_state]; exact hsteps.trans h⟩
  · exact Or.inr ⟨q, vm₁, B, X₁.warmed, X', hpost, hstep₁ _ fun acts => by rw [doInvoke_state]; exact hsteps⟩
end Calls
theorem vx_cls {s : State} {T : State} {vm₁ : Vm} {E : String} {k : ClassId} (hW : s.WarmedH vm₁) (h : (T.setVm vm₁).vm.findClass E = some k) : s.vm.findClass E = some k := by
  have h1 : vm₁.findClass E = some k := h
  rw [hW.alike.findClass] at h1
  exact h1
/-- the method's frame g, with q thrown over it -/
def vx_W (p : Program) (l : Launch) (e : Env) (R : Room) (s : State) (m : MethodId) (args : Array Value) (below : List Frame) (meth : Method) (c : Code) (H : Heap) (locs : List Loc) (cells slots : Nat) (Q : State → Prop) (g : JFrame) (q : Addr) : Prop :=
  ∀ T : State, T.heap = H → Stand p l e R s m args below meth c T locs cells slots → ∃ t, Steps p.tables e below ((T.setTop g).pushFrame (.throwing q)) t ∧ Q t
def vx_Run (p : Program) (l : Launch) (e : Env) (R : Room) (s : State) (m : MethodId) (args : Array Value) (below : List Frame) (meth : Method) (c : Code) (H : Heap) (locs : List Loc) (cells slots mc ms : Nat) (g : JFrame) (rest : List Value) (Qa : State → Outcome → State → Prop) (XC : String → State → State → Prop) (free : Addr → Prop) : Prop :=
  ∀ T : State, T.heap = H → Stand p l e R s m args below meth c T locs cells slots →
    (∃ (v : Option Value) (st₀ t T' : State) (L : List Loc), st₀.heap = H ∧ Stand p l e R s m args below meth c T' (locs ++ L) (cells + mc) (slots + ms) ∧ (∀ q ∈ L, free q.base) ∧ T'.heap = t.heap ∧ T'.vm = t.vm ∧ Qa st₀ (.returned v) t ∧
      Goes p e below T g T' { g with pc := g.pc + 3, stack := v.toList ++ rest }) ∨
    (∃ (q : Addr) (st₀ t T' : State) (L : List Loc) (E : String) (ce : Cell), st₀.heap = H ∧ Stand p l e R s m args below meth c T' (locs ++ L) (cells + mc) (slots + ms) ∧ (∀ z ∈ L, free z.base) ∧ T'.heap = t.heap ∧ T'.vm = t.vm ∧ XC E st₀ t ∧ t.heap[q]? = some ce ∧ ce.vm = .none ∧ s.vm.findClass E = some ce.cls ∧
      Steps p.tables e below (T.setTop g) ((T'.setTop { g with stack := rest }).pushFrame (.throwing q)))
def vx_X {S : Type} (px : S → Prop) (B : String → S → State → Prop) (A : Nat → Prop) : String → State → State → Prop := fun E st t => ∃ u : S, px u ∧ B E u t ∧ va_F A st t
section Runs
variable {p : Program} {l : Launch} {e : Env} {R : Room} {s : State} {m : MethodId} {args : Array Value} {below : List Frame} {meth : Method} {c : Code} {H : Heap} {locs : List Loc} {cells slots : Nat}
variable {y : MethodName} {bytes cc : ByteArray} {maxL nL mc ms n index : Nat} {ret : Option FieldType} {ws : List Cond} {rm : Room} {Pc : Array Value → State → Prop} {Qc : Array Value → State → Outcome → State → Prop} {XC : String → State → State → Prop} {free : Addr → Prop} {Ts : List Cond} {own C : String} {b : Addr} {As rest : List Value} {g : JFrame}
theorem vx_callBack (cb : CallB R s args own index y bytes maxL ret ws rm mc ms n) (hM : vx_Met l y ws rm Pc Qc XC mc ms free) (hbl : FrameBlind Pc) : vx_Back l R p e below s args y 3 8 (PreOf R mc ms Pc) (PostOf Qc mc ms free) (vx_Post XC mc ms free) := by
  obtain ⟨hrc, hrs, hfr, hlo, hws, hcw, -, hini, -⟩ := cb
  exact vx_back (bytes := bytes) (maxL := maxL) (ret := ret) hM hbl hrc hrs hfr hlo hws hcw (fun a' U hW => word_at hW (Or.inl (by first | rfl | simp [Cond.onTables, Cond.keeps, Cond.steady])) hini)
theorem vx_runV (S : CallFix p m c cc nL s args Ts own) (hM : vx_Met l y ws rm Pc Qc XC mc ms free) (cw : CallW R s args own C index y bytes maxL ret ws rm mc ms n) (hp : PreV s H C b Pc As)
    (hg : g.method = m) (hn : As.length = n) (hsize : g.locals.size = nL) (hstack : g.stack = As.reverse ++ .ref b :: rest) (hW : 2 * g.monitorRoom + (rest.map fun v => v.category).sum ≤ 8) (hdg : decode cc g.pc = .ok (.invokevirtual index, 3)) (hf : cells + mc ≤ R.cells ∧ slots + ms ≤ R.slots) :
    vx_Run p l e R s m args below meth c H locs cells slots mc ms g rest (Qc (Value.ref b :: As).toArray) XC free := by
  have hK : vx_Back l R p e below s args y 3 8 (PreOf R mc ms Pc) (PostOf Qc mc ms free) (vx_Post XC mc ms free) := vx_callBack cw.1 hM hp.1
  obtain ⟨⟨-, -, -, -, -, -, hcode, -, hy, hlen, hl⟩, hin, hse⟩ := cw
  obtain ⟨hx, hb, hml, ho, -⟩ := S
  obtain ⟨-, ⟨cellB, hcB, hoB, hclB⟩, hPc⟩ := hp
  intro T hT X
  rcases vx_callV X hx (C := C) (bytes := bytes) (maxL := maxL) (ret := ret) ho hl hin hse hcode hy hK (by rw [hT]; exact hcB) hoB hclB hg (hsize.trans hml.symm) (argsL := As) (rest := rest) (fun sig h => hn.trans (hlen sig h)) hstack hW (by rw [hb]; exact hdg)
    (fun vm₁ hW₁ => ⟨hf.1, hf.2, hPc (T.setVm vm₁) hT hW₁⟩) with ⟨v, vm₁, ⟨U', l2, c2, s2⟩, hW₁, X', ⟨g', mk, t, L, e1, e2, hq, h1, hL, h2, h3⟩, st⟩ | ⟨q, vm₁, ⟨U', l2, c2, s2⟩, hW₁, X', ⟨g', mk, t, L, E, ce, e1, e2, hq, hce, hcv, hcl, h1, hL, h2, h3⟩, st⟩
  · dsimp only [Pt.U, Pt.locs, Pt.cells, Pt.slots] at X' e1 e2 h1 h2 h3 st
    subst h1; subst h2; subst h3
    exact Or.inl ⟨v, (T.setVm vm₁).calling g' mk (Value.ref b :: As).toArray, t, U', L, hT, X', hL, e1, e2, hq, st⟩
  · dsimp only [Pt.U, Pt.locs, Pt.cells, Pt.slots] at X' e1 e2 h1 h2 h3 st hcl
    subst h1; subst h2; subst h3
    exact Or.inr ⟨q, (T.setVm vm₁).calling g' mk (Value.ref b :: As).toArray, t, U', L, E, ce, hT, X', hL, e1, e2, hq, hce, hcv, vx_cls hW₁ hcl, st⟩
theorem vx_runS (S : CallFix p m c cc nL s args Ts own) (hM : vx_Met l y ws rm Pc Qc XC mc ms free) (cw : CallB R s args own index y bytes maxL ret ws rm mc ms n ∧ (Cond.static y).before args s = true) (hp : PreS s H Pc As)
    (hg : g.method = m) (hn : As.length = n) (hsize : g.locals.size = nL) (hstack : g.stack = As.reverse ++ rest) (hW : 2 * g.monitorRoom + (rest.map fun v => v.category).sum ≤ 8) (hdg : decode cc g.pc = .ok (.invokestatic index, 3)) (hf : cells + mc ≤ R.cells ∧ slots + ms ≤ R.slots) :
    vx_Run p l e R s m args below meth c H locs cells slots mc ms g rest (Qc As.toArray) XC free := by
  have hK : vx_Back l R p e below s args y 3 8 (PreOf R mc ms Pc) (PostOf Qc mc ms free) (vx_Post XC mc ms free) := vx_callBack cw.1 hM hp.1
  obtain ⟨⟨-, -, -, -, -, -, hcode, hini, hy, hlen, hl⟩, hstt⟩ := cw
  obtain ⟨hx, hb, hml, ho, -⟩ := S
  intro T hT X
  rcases vx_callS X hx (bytes := bytes) (maxL := maxL) (ret := ret) ho hl hstt hini hcode hy hK hg (hsize.trans hml.symm) (argsL := As) (rest := rest) (fun sig h => hn.trans (hlen sig h)) hstack hW (by rw [hb]; exact hdg)
    (fun vm₁ hW₁ => ⟨hf.1, hf.2, hp.2 (T.setVm vm₁) hT hW₁⟩) with ⟨v, vm₁, ⟨U', l2, c2, s2⟩, hW₁, X', ⟨g', mk, t, L, e1, e2, hq, h1, hL, h2, h3⟩, st⟩ | ⟨q, vm₁, ⟨U', l2, c2, s2⟩, hW₁, X', ⟨g', mk, t, L, E, ce, e1, e2, hq, hce, hcv, hcl, h1, hL, h2, h3⟩, st⟩
  · dsimp only [Pt.U, Pt.locs, Pt.cells, Pt.slots] at X' e1 e2 h1 h2 h3 st
    subst h1; subst h2; subst h3
    exact Or.inl ⟨v, (T.setVm vm₁).calling g' mk As.toArray, t, U', L, hT, X', hL, e1, e2, hq, st⟩
  · dsimp only [Pt.U, Pt.locs, Pt.cells, Pt.slots] at X' e1 e2 h1 h2 h3 st hcl
    subst h1; subst h2; subst h3
    exact Or.inr ⟨q, (T.setVm vm₁).calling g' mk As.toArray, t, U', L, E, ce, hT, X', hL, e1, e2, hq, hce, hcv, vx_cls hW₁ hcl, st⟩
end Runs
section Rows
variable {p : Program} {l : Launch} {e : Env} {R : Room} {s : State} {m : MethodId} {args : Array Value} {below : List Frame} {meth : Method} {c : Code} {H : Heap} {locs : List Loc} {cells slots : Nat} {Q : State → Prop}
variable {mc ms : Nat} {free : Addr → Prop} {A0 A1 : Nat → Prop} {H0 : Heap} {a : Array Value} {pc : Nat} {ls : Array Slot} {st0 rest : List Value}
theorem vx_keep {st₀ t T' : State} {L : List Loc} (h0 : st₀.heap = H) (e1 : T'.heap = t.heap) (hS : va_S A0 H0 H locs) (hA : ∀ q, q < H.size → A1 q → A0 q) (hf : ∀ q, free q → A0 q) (hL : ∀ q ∈ L, free q.base) (hF : va_F A1 st₀ t) :
    H.size ≤ T'.heap.size ∧ (∀ q : Nat, q < H.size → ¬ A1 q → T'.heap[q]? = H[q]?) ∧ va_S A0 H0 T'.heap (locs ++ L) := by
  obtain ⟨hz, hk⟩ := hF
  rw [h0] at hz hk
  exact ⟨by rw [e1]; exact hz, fun q h1 h2 => by rw [e1]; exact hk q h1 h2,
    ⟨Nat.le_trans hS.1 (by rw [e1]; exact hz), fun q h1 h2 => by rw [e1, hk q (Nat.lt_of_lt_of_le h1 hS.1) (fun z => h2 (hA q (Nat.lt_of_lt_of_le h1 hS.1) z))]; exact hS.2.1 q h1 h2, fun q hq => by
      rcases List.mem_append.mp hq with h | h
      · exact hS.2.2 q h
      · exact hf _ (hL q h)⟩⟩
theorem vx_calli {S SX : Type} {post : Int32 → S → Prop} {px : SX → Prop} {B : S → State → Prop} {BX : String → SX → State → Prop} {AX : Nat → Prop} (hr : vx_Run p l e R s m args below meth c H locs cells slots mc ms (F0 m pc ls st0) rest (va_Qi post B A1 a) (vx_X px BX AX) free) (hS : va_S A0 H0 H locs) (hA : ∀ q, q < H.size → A1 q → A0 q) (hf : ∀ q, free q → A0 q) (hAX : ∀ q, q < H.size → AX q → A0 q)
    (kx : ∀ (E : String) (ce : Cell) (q9 : Addr) (u : SX) (t : State) (H1 : Heap) (locs1 : List Loc), t.heap = H1 → s.vm.Alike t.vm → px u → BX E u t → H.size ≤ H1.size → (∀ q : Nat, q < H.size → ¬ AX q → H1[q]? = H[q]?) → va_S A0 H0 H1 locs1 → H1[q9]? = some ce → ce.vm = .none → s.vm.findClass E = some ce.cls → vx_W p l e R s m args below meth c H1 locs1 (cells + mc) (slots + ms) Q (F0 m pc ls rest) q9)
    (kk : ∀ (r : Int32) (u : S) (t : State) (H1 : Heap) (locs1 : List Loc), t.heap = H1 → s.vm.Alike t.vm → post r u → B u t → H.size ≤ H1.size → (∀ q : Nat, q < H.size → ¬ A1 q → H1[q]? = H[q]?) → va_S A0 H0 H1 locs1 → W p l e R s m args below meth c H1 locs1 (cells + mc) (slots + ms) Q (F0 m (pc + 3) ls (.int r :: rest))) : W p l e R s m args below meth c H locs cells slots Q (F0 m pc ls st0) := by
  intro T hT X
  rcases hr T hT X with ⟨v, st₀, t, T', L, h0, X', hL, e1, e2, ⟨⟨r, u, hv, hp, hb⟩, hF⟩, st⟩ | ⟨q, st₀, t, T', L, E, ce, h0, X', hL, e1, e2, ⟨u, hp, hb, hF⟩, hce, hcv, hcl, st⟩
  · cases hv
    obtain ⟨k1, k2, k3⟩ := vx_keep h0 e1 hS hA hf hL hF
    obtain ⟨t2, a1, b1⟩ := kk r u t T'.heap (locs ++ L) e1.symm (by rw [← e2]; exact X'.warmed.alike) hp hb k1 k2 k3 T' rfl X'
    exact ⟨t2, st t2 a1, b1⟩
  · obtain ⟨k1, k2, k3⟩ := vx_keep h0 e1 hS hAX hf hL hF
    obtain ⟨t2, a1, b1⟩ := kx E ce q u t T'.heap (locs ++ L) e1.symm (by rw [← e2]; exact X'.warmed.alike) hp hb k1 k2 k3 (by rw [e1]; exact hce) hcv hcl T' rfl X'
    exact ⟨t2, st.trans a1, b1⟩
theorem vx_calll {S SX : Type} {post : Int64 → S → Prop} {px : SX → Prop} {B : S → State → Prop} {BX : String → SX → State → Prop} {AX : Nat → Prop} (hr : vx_Run p l e R s m args below meth c H locs cells slots mc ms (F0 m pc ls st0) rest (va_Ql post B A1 a) (vx_X px BX AX) free) (hS : va_S A0 H0 H locs) (hA : ∀ q, q < H.size → A1 q → A0 q) (hf : ∀ q, free q → A0 q) (hAX : ∀ q, q < H.size → AX q → A0 q)
    (kx : ∀ (E : String) (ce : Cell) (q9 : Addr) (u : SX) (t : State) (H1 : Heap) (locs1 : List Loc), t.heap = H1 → s.vm.Alike t.vm → px u → BX E u t → H.size ≤ H1.size → (∀ q : Nat, q < H.size → ¬ AX q → H1[q]? = H[q]?) → va_S A0 H0 H1 locs1 → H1[q9]? = some ce → ce.vm = .none → s.vm.findClass E = some ce.cls → vx_W p l e R s m args below meth c H1 locs1 (cells + mc) (slots + ms) Q (F0 m pc ls rest) q9)
    (kk : ∀ (r : Int64) (u : S) (t : State) (H1 : Heap) (locs1 : List Loc), t.heap = H1 → s.vm.Alike t.vm → post r u → B u t → H.size ≤ H1.size → (∀ q : Nat, q < H.size → ¬ A1 q → H1[q]? = H[q]?) → va_S A0 H0 H1 locs1 → W p l e R s m args below meth c H1 locs1 (cells + mc) (slots + ms) Q (F0 m (pc + 3) ls (.long r :: rest))) : W p l e R s m args below meth c H locs cells slots Q (F0 m pc ls st0) := by
  intro T hT X
  rcases hr T hT X with ⟨v, st₀, t, T', L, h0, X', hL, e1, e2, ⟨⟨r, u, hv, hp, hb⟩, hF⟩, st⟩ | ⟨q, st₀, t, T', L, E, ce, h0, X', hL, e1, e2, ⟨u, hp, hb, hF⟩, hce, hcv, hcl, st⟩
  · cases hv
    obtain ⟨k1, k2, k3⟩ := vx_keep h0 e1 hS hA hf hL hF
    obtain ⟨t2, a1, b1⟩ := kk r u t T'.heap (locs ++ L) e1.symm (by rw [← e2]; exact X'.warmed.alike) hp hb k1 k2 k3 T' rfl X'
    exact ⟨t2, st t2 a1, b1⟩
  · obtain ⟨k1, k2, k3⟩ := vx_keep h0 e1 hS hAX hf hL hF
    obtain ⟨t2, a1, b1⟩ := kx E ce q u t T'.heap (locs ++ L) e1.symm (by rw [← e2]; exact X'.warmed.alike) hp hb k1 k2 k3 (by rw [e1]; exact hce) hcv hcl T' rfl X'
    exact ⟨t2, st.trans a1, b1⟩
theorem vx_callf {S SX : Type} {post : UInt32 → S → Prop} {px : SX → Prop} {B : S → State → Prop} {BX : String → SX → State → Prop} {AX : Nat → Prop} (hr : vx_Run p l e R s m args below meth c H locs cells slots mc ms (F0 m pc ls st0) rest (va_Qf post B A1 a) (vx_X px BX AX) free) (hS : va_S A0 H0 H locs) (hA : ∀ q, q < H.size → A1 q → A0 q) (hf : ∀ q, free q → A0 q) (hAX : ∀ q, q < H.size → AX q → A0 q)
    (kx : ∀ (E : String) (ce : Cell) (q9 : Addr) (u : SX) (t : State) (H1 : Heap) (locs1 : List Loc), t.heap = H1 → s.vm.Alike t.vm → px u → BX E u t → H.size ≤ H1.size → (∀ q : Nat, q < H.size → ¬ AX q → H1[q]? = H[q]?) → va_S A0 H0 H1 locs1 → H1[q9]? = some ce → ce.vm = .none → s.vm.findClass E = some ce.cls → vx_W p l e R s m args below meth c H1 locs1 (cells + mc) (slots + ms) Q (F0 m pc ls rest) q9)
    (kk : ∀ (r : UInt32) (u : S) (t : State) (H1 : Heap) (locs1 : List Loc), t.heap = H1 → s.vm.Alike t.vm → post r u → B u t → H.size ≤ H1.size → (∀ q : Nat, q < H.size → ¬ A1 q → H1[q]? = H[q]?) → va_S A0 H0 H1 locs1 → W p l e R s m args below meth c H1 locs1 (cells + mc) (slots + ms) Q (F0 m (pc + 3) ls (.float r :: rest))) : W p l e R s m args below meth c H locs cells slots Q (F0 m pc ls st0) := by
  intro T hT X
  rcases hr T hT X with ⟨v, st₀, t, T', L, h0, X', hL, e1, e2, ⟨⟨r, u, hv, hp, hb⟩, hF⟩, st⟩ | ⟨q, st₀, t, T', L, E, ce, h0, X', hL, e1, e2, ⟨u, hp, hb, hF⟩, hce, hcv, hcl, st⟩
  · cases hv
    obtain ⟨k1, k2, k3⟩ := vx_keep h0 e1 hS hA hf hL hF
    obtain ⟨t2, a1, b1⟩ := kk r u t T'.heap (locs ++ L) e1.symm (by rw [← e2]; exact X'.warmed.alike) hp hb k1 k2 k3 T' rfl X'
    exact ⟨t2, st t2 a1, b1⟩
  · obtain ⟨k1, k2, k3⟩ := vx_keep h0 e1 hS hAX hf hL hF
    obtain ⟨t2, a1, b1⟩ := kx E ce q u t T'.heap (locs ++ L) e1.symm (by rw [← e2]; exact X'.warmed.alike) hp hb k1 k2 k3 (by rw [e1]; exact hce) hcv hcl T' rfl X'
    exact ⟨t2, st.trans a1, b1⟩
theorem vx_calld {S SX : Type} {post : UInt64 → S → Prop} {px : SX → Prop} {B : S → State → Prop} {BX : String → SX → State → Prop} {AX : Nat → Prop} (hr : vx_Run p l e R s m args below meth c H locs cells slots mc ms (F0 m pc ls st0) rest (va_Qd post B A1 a) (vx_X px BX AX) free) (hS : va_S A0 H0 H locs) (hA : ∀ q, q < H.size → A1 q → A0 q) (hf : ∀ q, free q → A0 q) (hAX : ∀ q, q < H.size → AX q → A0 q)
    (kx : ∀ (E : String) (ce : Cell) (q9 : Addr) (u : SX) (t : State) (H1 : Heap) (locs1 : List Loc), t.heap = H1 → s.vm.Alike t.vm → px u → BX E u t → H.size ≤ H1.size → (∀ q : Nat, q < H.size → ¬ AX q → H1[q]? = H[q]?) → va_S A0 H0 H1 locs1 → H1[q9]? = some ce → ce.vm = .none → s.vm.findClass E = some ce.cls → vx_W p l e R s m args below meth c H1 locs1 (cells + mc) (slots + ms) Q (F0 m pc ls rest) q9)
    (kk : ∀ (r : UInt64) (u : S) (t : State) (H1 : Heap) (locs1 : List Loc), t.heap = H1 → s.vm.Alike t.vm → post r u → B u t → H.size ≤ H1.size → (∀ q : Nat, q < H.size → ¬ A1 q → H1[q]? = H[q]?) → va_S A0 H0 H1 locs1 → W p l e R s m args below meth c H1 locs1 (cells + mc) (slots + ms) Q (F0 m (pc + 3) ls (.double r :: rest))) : W p l e R s m args below meth c H locs cells slots Q (F0 m pc ls st0) := by
  intro T hT X
  rcases hr T hT X with ⟨v, st₀, t, T', L, h0, X', hL, e1, e2, ⟨⟨r, u, hv, hp, hb⟩, hF⟩, st⟩ | ⟨q, st₀, t, T', L, E, ce, h0, X', hL, e1, e2, ⟨u, hp, hb, hF⟩, hce, hcv, hcl, st⟩
  · cases hv
    obtain ⟨k1, k2, k3⟩ := vx_keep h0 e1 hS hA hf hL hF
    obtain ⟨t2, a1, b1⟩ := kk r u t T'.heap (locs ++ L) e1.symm (by rw [← e2]; exact X'.warmed.alike) hp hb k1 k2 k3 T' rfl X'
    exact ⟨t2, st t2 a1, b1⟩
  · obtain ⟨k1, k2, k3⟩ := vx_keep h0 e1 hS hAX hf hL hF
    obtain ⟨t2, a1, b1⟩ := kx E ce q u t T'.heap (locs ++ L) e1.symm (by rw [← e2]; exact X'.warmed.alike) hp hb k1 k2 k3 (by rw [e1]; exact hce) hcv hcl T' rfl X'
    exact ⟨t2, st.trans a1, b1⟩
theorem vx_callv {S SX : Type} {post : S → Prop} {px : SX → Prop} {B : S → State → Prop} {BX : String → SX → State → Prop} {AX : Nat → Prop} (hr : vx_Run p l e R s m args below meth c H locs cells slots mc ms (F0 m pc ls st0) rest (va_Qv post B A1 a) (vx_X px BX AX) free) (hS : va_S A0 H0 H locs) (hA : ∀ q, q < H.size → A1 q → A0 q) (hf : ∀ q, free q → A0 q) (hAX : ∀ q, q < H.size → AX q → A0 q)
    (kx : ∀ (E : String) (ce : Cell) (q9 : Addr) (u : SX) (t : State) (H1 : Heap) (locs1 : List Loc), t.heap = H1 → s.vm.Alike t.vm → px u → BX E u t → H.size ≤ H1.size → (∀ q : Nat, q < H.size → ¬ AX q → H1[q]? = H[q]?) → va_S A0 H0 H1 locs1 → H1[q9]? = some ce → ce.vm = .none → s.vm.findClass E = some ce.cls → vx_W p l e R s m args below meth c H1 locs1 (cells + mc) (slots + ms) Q (F0 m pc ls rest) q9)
    (kk : ∀ (u : S) (t : State) (H1 : Heap) (locs1 : List Loc), t.heap = H1 → s.vm.Alike t.vm → post u → B u t → H.size ≤ H1.size → (∀ q : Nat, q < H.size → ¬ A1 q → H1[q]? = H[q]?) → va_S A0 H0 H1 locs1 → W p l e R s m args below meth c H1 locs1 (cells + mc) (slots + ms) Q (F0 m (pc + 3) ls (rest))) : W p l e R s m args below meth c H locs cells slots Q (F0 m pc ls st0) := by
  intro T hT X
  rcases hr T hT X with ⟨v, st₀, t, T', L, h0, X', hL, e1, e2, ⟨⟨u, hv, hp, hb⟩, hF⟩, st⟩ | ⟨q, st₀, t, T', L, E, ce, h0, X', hL, e1, e2, ⟨u, hp, hb, hF⟩, hce, hcv, hcl, st⟩
  · cases hv
    obtain ⟨k1, k2, k3⟩ := vx_keep h0 e1 hS hA hf hL hF
    obtain ⟨t2, a1, b1⟩ := kk u t T'.heap (locs ++ L) e1.symm (by rw [← e2]; exact X'.warmed.alike) hp hb k1 k2 k3 T' rfl X'
    exact ⟨t2, st t2 a1, b1⟩
  · obtain ⟨k1, k2, k3⟩ := vx_keep h0 e1 hS hAX hf hL hF
    obtain ⟨t2, a1, b1⟩ := kx E ce q u t T'.heap (locs ++ L) e1.symm (by rw [← e2]; exact X'.warmed.alike) hp hb k1 k2 k3 (by rw [e1]; exact hce) hcv hcl T' rfl X'
    exact ⟨t2, st.trans a1, b1⟩
/-- caught by the row x of this method's table; the rows ahead don't take it -/
theorem vx_catch {own name : String} {E : String} {ce : Cell} {q : Addr} (hown : s.vm.findClass own = some m.cls) (pre : List ExceptionTableEntry) (x : ExceptionTableEntry) (suf : List ExceptionTableEntry) (hsplit : c.exceptionTable.toList = pre ++ x :: suf)
    (hpass : ∀ z ∈ pre, covers z pc = false ∨ (z.catchType ≠ 0 ∧ ∃ nm : String, (Cond.classLink own z.catchType nm).before args s = true ∧ va_Nc E nm s)) (hx : covers x pc = true) (h0 : x.catchType ≠ 0)
    (hlink : (Cond.classLink own x.catchType name).before args s = true) (hcast : (Cond.castable E name).before args s = true) (hcell : H[q]? = some ce) (hv : ce.vm = .none) (hcl : s.vm.findClass E = some ce.cls)
    (kk : W p l e R s m args below meth c H locs cells slots Q (F0 m x.handlerPc ls [.ref q])) : vx_W p l e R s m args below meth c H locs cells slots Q (F0 m pc ls rest) q := by
  intro T hT X
  have hpl : e.platform.magicAccessors = ({} : Platform).magicAccessors := by rw [X.admits.platform]
  obtain ⟨c3, c4, hc3, hc4, hasg⟩ := Cond.castable_spec hcast
  cases Option.some.inj (hc3.symm.trans hcl)
  obtain ⟨c5, hc5, hcl5⟩ := Cond.classLink_spec hown hlink e.platform hpl
  cases Option.some.inj (hc4.symm.trans hc5)
  obtain ⟨vm', X', st⟩ := X.thenCaughtThrough q (g := F0 m pc ls rest) rfl (Steps.refl _) (by rw [hT]; exact hcell) (by rw [hv]; rfl) (by obtain ⟨k9, h9, -⟩ := Vm.findClass_spec hcl; exact ⟨k9, h9⟩) pre x suf hsplit
    (fun z hz => by
      rcases hpass z hz with h | ⟨hz0, nm, hl1, hn1⟩
      · exact Or.inl h
      · obtain ⟨c6, hc6, hcl6⟩ := Cond.classLink_spec hown hl1 e.platform hpl
        obtain ⟨a8, b8, h1, h2, h3⟩ := hn1
        cases Option.some.inj (h1.symm.trans hcl)
        cases Option.some.inj (h2.symm.trans hc6)
        exact Or.inr ⟨hz0, _, hcl6, h3⟩) hx (Or.inr ⟨h0, c4, hcl5, hasg⟩)
  obtain ⟨t, a1, b1⟩ := kk (T.setVm vm') hT X'
  exact ⟨t, st.trans a1, b1⟩
end Rows
section Ends
variable {p : Program} {l : Launch} {e : Env} {R : Room} {s : State} {m : MethodId} {args : Array Value} {below : List Frame} {meth : Method} {c : Code} {H : Heap} {locs : List Loc} {cells slots : Nat} {Q : State → Prop}
variable {mc ms : Nat} {free : Addr → Prop} {A0 A1 : Nat → Prop} {H0 : Heap} {a : Array Value} {ls : Array Slot} {st0 rest : List Value}
variable {Qc : Array Value → State → Outcome → State → Prop} {XC : String → State → State → Prop}
/-- what a body that may throw owes at its end -/
def vx_MQ (below : List Frame) (Qc : Array Value → State → Outcome → State → Prop) (XC : String → State → State → Prop) (a : Array Value) (s : State) (mc ms : Nat) (free : Addr → Prop) : State → Prop := fun t =>
  ∃ o, t.status = .running ∧ Ended t below o ∧ vx_Q Qc XC mc ms free a s o t
theorem vx_ret {g : JFrame} {mc ms : Nat} (k : W p l e R s m args below meth c H locs cells slots (MQ below Qc args s mc ms free) g) : W p l e R s m args below meth c H locs cells slots (vx_MQ below Qc XC args s mc ms free) g := by
  intro T hT X
  obtain ⟨t, a1, o, b1, b2, b3, b4⟩ := k T hT X
  exact ⟨t, a1, o, b1, b2, Or.inl ⟨b3, b4⟩⟩
/-- not caught here: it goes on to the caller -/
theorem vx_widen {g : JFrame} {q : Addr} {k n : Nat} (h1 : cells ≤ k) (h2 : slots ≤ n) (kk : vx_W p l e R s m args below meth c H locs k n Q g q) : vx_W p l e R s m args below meth c H locs cells slots Q g q := fun T hT X => kk T hT (stand_widen X h1 h2)
theorem vx_out {pc : Nat} {E : String} {ce : Cell} {q : Addr} {mc ms : Nat} (hout : ∀ x ∈ c.exceptionTable.toList, covers x pc = false) (hlocks : meth.locks = false) (hcell : H[q]? = some ce) (hv : ce.vm = .none) (hcl : s.vm.findClass E = some ce.cls)
    (hx : ∀ t : State, t.heap = H → s.vm.Alike t.vm → XC E s t) (hf : ∀ z ∈ locs, free z.base) (hc : cells ≤ mc) (hs : slots ≤ ms) :
    vx_W p l e R s m args below meth c H locs cells slots (vx_MQ below Qc XC args s mc ms free) (F0 m pc ls rest) q := by
  intro T hT X
  obtain ⟨st1, hrun, hend, hW, hsm⟩ := X.leaveThrown q (g := F0 m pc ls rest) rfl rfl rfl hout hlocks
  have hcell9 : (T.setFrames (.throwing q :: below)).heap[q]? = some ce := by
    show T.heap[q]? = some ce
    rw [hT]; exact hcell
  exact ⟨_, st1, .threw q, hrun, hend, Or.inr ⟨q, rfl, E, ce, locs, hx _ hT hW.alike, hcell9, hv, hcl, hW, hsm.mono hc hs, hf⟩⟩
theorem vx_frame {U : State} {k n : Nat} (h : s.sameButNew ({ U with vm := s.vm } : State) locs k n) : s.heap.size ≤ U.heap.size ∧ ∀ q : Nat, q < s.heap.size → (∀ z ∈ locs, z.base ≠ q) → U.heap[q]? = s.heap[q]? := by
  obtain ⟨-, h2, -, -, -, h6⟩ := h
  refine ⟨h2, fun q hq hz => ?_⟩
  obtain ⟨c9, e1, e2, e3, e4⟩ := h6 q _ (Array.getElem?_eq_getElem hq)
  have hs : c9.slots = (s.heap[q]).slots := Array.ext_getElem? fun i => e4 i fun hm => hz _ hm rfl
  have h9 : c9 = s.heap[q] := by
    rw [hs] at e2
    exact e2
  have e5 : U.heap[q]? = some c9 := e1
  rw [e5, h9, Array.getElem?_eq_getElem hq]
/-- the words of a throw but the four that speak of the heap -/
def vx_no (w : Cond) : Bool := decide (w ≠ .isRef (.static Bundle.tN "UNASSIGNED_STACK" Bundle.steD)) && decide (w ≠ .isRef (.static Bundle.tN "SUPPRESSED_SENTINEL" Bundle.listD)) && decide (w ≠ .laysStatic Bundle.tN "UNASSIGNED_STACK" Bundle.steD) && decide (w ≠ .laysStatic Bundle.tN "SUPPRESSED_SENTINEL" Bundle.listD)
def vx_at0 (own : String) (ic : Nat) (X : String) (names : List String) : List Cond := (Bundle.ownAtoms0 own ic X names).filter vx_no
def vx_atS (own : String) (ic : Nat) (X : String) (names : List String) : List Cond := (Bundle.ownAtoms own ic X names).filter vx_no
/-- a word that the tables alone decide, or a good one -/
def vx_ot (w : Cond) : Bool := w.onTables || goodWord w
theorem vx_ot_at {args a' : Array Value} {s U : State} {w : Cond} (hW : s.WarmedH U.vm) (hvm : s.vm = U.vm) (hg : vx_ot w = true) (h : w.before args s = true) : w.before a' U = true := by
  simp only [vx_ot, Bool.or_eq_true] at hg
  rcases hg with hg | hg
  · exact va_tabs hg hvm h
  · exact word_at hW (good_of_word hg) h
/-- a list's words: the good ones out of the method's own list, the others by premises of their own -/
theorem vx_hat {args : Array Value} {s : State} {L B : List Cond} (h1 : ∀ w ∈ L.filter goodWord, w.before args s = true) (h2 : ∀ w ∈ L.filter (fun w => !goodWord w), w ∈ B) (h3 : ∀ w ∈ B, w.before args s = true) : ∀ w ∈ L, w.before args s = true := by
  intro w hw
  by_cases g : goodWord w = true
  · exact h1 w (List.mem_filter.mpr ⟨hw, g⟩)
  · refine h3 w (h2 w (List.mem_filter.mpr ⟨hw, ?_⟩))
    show (!goodWord w) = true
    cases hgw : goodWord w
    · rfl
    · exact absurd hgw g
theorem vx_c {args : Array Value} {s : State} {w : Cond} {B : List Cond} (h : w.before args s = true) (t : ∀ w ∈ B, w.before args s = true) : ∀ w' ∈ w :: B, w'.before args s = true := fun w' h' => (List.mem_cons.mp h').elim (fun e => by rw [e]; exact h) (t w')
theorem vx_n {args : Array Value} {s : State} : ∀ w ∈ ([] : List Cond), w.before args s = true := fun _ h => nomatch h
theorem vx_own {args : Array Value} {s : State} {L : List Cond} (h1 : ∀ w ∈ L.filter vx_no, w.before args s = true)
    (hU : (Cond.isRef (.static Bundle.tN "UNASSIGNED_STACK" Bundle.steD)).before args s = true) (hN : (Cond.isRef (.static Bundle.tN "SUPPRESSED_SENTINEL" Bundle.listD)).before args s = true)
    (lU : (Cond.laysStatic Bundle.tN "UNASSIGNED_STACK" Bundle.steD).before args s = true) (lN : (Cond.laysStatic Bundle.tN "SUPPRESSED_SENTINEL" Bundle.listD).before args s = true) : ∀ w ∈ L, w.before args s = true := by
  intro w hw
  by_cases e1 : w = .isRef (.static Bundle.tN "UNASSIGNED_STACK" Bundle.steD)
  · rw [e1]; exact hU
  · by_cases e2 : w = .isRef (.static Bundle.tN "SUPPRESSED_SENTINEL" Bundle.listD)
    · rw [e2]; exact hN
    · by_cases e3 : w = .laysStatic Bundle.tN "UNASSIGNED_STACK" Bundle.steD
      · rw [e3]; exact lU
      · by_cases e4 : w = .laysStatic Bundle.tN "SUPPRESSED_SENTINEL" Bundle.listD
        · rw [e4]; exact lN
        · exact h1 w (List.mem_filter.mpr ⟨hw, by unfold vx_no; rw [decide_eq_true e1, decide_eq_true e2, decide_eq_true e3, decide_eq_true e4]; rfl⟩)
/-- where a static field lies, its class's statics cell in H -/
def vx_L (C n d : String) (A : Nat → Prop) (U : State) (H : Heap) : Prop := ∃ (c : ClassId) (k : Class) (i : Nat) (f : Field) (a : Nat) (cell : Cell), U.vm.findClass C = some c ∧ U.fieldFound? C n d = some (c, k, i, f) ∧ f.isStatic = true ∧ k.statics = some a ∧ H[a]? = some cell ∧ cell.vm.isStatics = true ∧ cell.cls = c ∧ f.slot < cell.slots.size ∧ k.staticTypes[f.slot]? = some f.type ∧ ¬ A a
theorem vx_L.moved {C n d : String} {A : Nat → Prop} {u U : State} {H : Heap} (hvm : u.vm.Alike U.vm) (h : vx_L C n d A u H) : vx_L C n d A U H := by
  obtain ⟨c, k, i, f, a, cell, h1, h2, h3, h4, h5, h6, h7, h8, h9, h10⟩ := h
  obtain ⟨k', hi', he⟩ := State.fieldFound?_setVm hvm h2
  exact ⟨c, k', i, f, a, cell, by rw [hvm.findClass]; exact h1, hi', h3, by rw [he]; exact h4, h5, h6, h7, h8, by rw [he]; exact h9, h10⟩
theorem vx_L.kept {C n d : String} {A : Nat → Prop} {U : State} {H H1 : Heap} (h : vx_L C n d A U H) (hq : ∀ a : Nat, a < H.size → ¬ A a → H1[a]? = H[a]?) : vx_L C n d A U H1 := by
  obtain ⟨c, k, i, f, a, cell, h1, h2, h3, h4, h5, h6, h7, h8, h9, h10⟩ := h
  exact ⟨c, k, i, f, a, cell, h1, h2, h3, h4, by rw [hq a (Array.getElem?_eq_some_iff.mp h5).1 h10]; exact h5, h6, h7, h8, h9, h10⟩
theorem vx_L.narrow {C n d : String} {A B : Nat → Prop} {U : State} {H : Heap} (h : vx_L C n d A U H) (hAB : ∀ q, B q → A q) : vx_L C n d B U H := by
  obtain ⟨c, k, i, f, a, cell, h1, h2, h3, h4, h5, h6, h7, h8, h9, h10⟩ := h
  exact ⟨c, k, i, f, a, cell, h1, h2, h3, h4, h5, h6, h7, h8, h9, fun z => h10 (hAB _ z)⟩
theorem vx_L.word {C n d : String} {A : Nat → Prop} {s : State} {args : Array Value} (h : vx_L C n d A s s.heap) : (Cond.laysStatic C n d).before args s = true := by
  obtain ⟨c, k, i, f, a, cell, h1, h2, h3, h4, h5, h6, h7, h8, h9, -⟩ := h
  show (Cond.laysStatic C n d).holds args s none s [] = true
  exact Cond.laysStatic_of h1 h2 h3 h4 h5 h6 h7 h8 h9
/-- .. and what it holds: null or some reference -/
def vx_Zq (C n d : String) (A : Nat → Prop) (U : State) (H : Heap) : Prop := va_Zq C n d A U H ∧ vx_L C n d A U H
theorem vx_Zq.moved {C n d : String} {A : Nat → Prop} {u U : State} {H : Heap} (hvm : u.vm.Alike U.vm) (h : vx_Zq C n d A u H) : vx_Zq C n d A U H := ⟨va_Zq.moved hvm h.1, vx_L.moved hvm h.2⟩
theorem vx_Zq.kept {C n d : String} {A : Nat → Prop} {U : State} {H H1 : Heap} (h : vx_Zq C n d A U H) (hq : ∀ a : Nat, a < H.size → ¬ A a → H1[a]? = H[a]?) : vx_Zq C n d A U H1 := ⟨va_Zq.kept h.1 hq, vx_L.kept h.2 hq⟩
theorem vx_Zq.narrow {C n d : String} {A B : Nat → Prop} {U : State} {H : Heap} (h : vx_Zq C n d A U H) (hAB : ∀ q, B q → A q) : vx_Zq C n d B U H := ⟨va_Zq.narrow h.1 hAB, vx_L.narrow h.2 hAB⟩
theorem vx_Zqof {args : Array Value} {s : State} {C n d : String} {A : Nat → Prop} (hl : (Cond.laysStatic C n d).before args s = true) (hini : (Cond.initialized C).before args s = true) (h : (Cond.isRef (.static C n d)).before args s = true) (hA : ∀ a : Nat, a < s.heap.size → ¬ A a) : vx_Zq C n d A s s.heap := by
  refine ⟨va_Zqof hl hini h hA, ?_⟩
  obtain ⟨c, k, i, f, a, cell, h1, h2, h3, h4, h5, h6, h7, h8, h9⟩ := Cond.laysStatic_spec hl
  exact ⟨c, k, i, f, a, cell, h1, h2, h3, h4, h5, h6, h7, h8, h9, hA a (Array.getElem?_eq_some_iff.mp h5).1⟩
theorem vx_isRef {C n d : String} {v : Value} {A : Nat → Prop} {s : State} {args : Array Value} (h : va_Z C n d v A s s.heap) (hv : v.isRef = true) : (Cond.isRef (.static C n d)).before args s = true := by
  obtain ⟨cf, kf, fi, f, a, cell, h1, h2, h3, h4, h5, h6, h7, -⟩ := h
  have he : (Term.static C n d).eval args s none [] s = some v := by
    simp [Term.eval, State.fieldNamed?, h1, h2, h4, h5, h6, h7]
  simp only [Cond.before, Cond.holds, Cond.value, he]
  cases v <;> simp_all [Value.isRef]
theorem vx_isRefq {C n d : String} {A : Nat → Prop} {s : State} {args : Array Value} (h : va_Zq C n d A s s.heap) : (Cond.isRef (.static C n d)).before args s = true := by
  rcases h with h | ⟨t, h⟩
  · exact vx_isRef h rfl
  · exact vx_isRef h rfl
/-- the same frame, seen from here: as if the method were called anew in this heap -/
theorem vx_rebase {T : State} (X : Stand p l e R s m args below meth c T locs cells slots) {R' : Room} (hf : R'.frames ≤ R.frames) (hl : R'.locals ≤ R.locals) (hc : cells + R'.cells ≤ R.cells) (hs : slots + R'.slots ≤ R.slots) :
    Stand p l e R' ((T.setVm s.vm).setFrames (.invoking m args :: below)) m args below meth c T [] 0 0 := by
  have htop : (T.setVm s.vm).topJava?.isSome := X.here.top
  have hF : ((T.setVm s.vm).setFrames (.invoking m args :: below)).frames = .invoking m args :: below := State.frames_setFrames _ (State.cur_lt_of_top htop)
  obtain ⟨g₀, hg0⟩ := Option.isSome_iff_exists.mp htop
  obtain ⟨r, hr⟩ := State.topJava?_eq_some.mp hg0
  have hl9 : e.platform.stackLimits (T.setVm s.vm).me = e.platform.stackLimits s.me := X.limits
  have hb9 : (T.setVm s.vm).me.stackBytes = s.me.stackBytes := X.bytes
  refine ⟨X.admits, X.cas, X.clock, hF, ?_, X.hears, X.method, X.code, X.here, X.tail, X.warmed, ?_, ?_, ?_⟩
  · have h := X.room
    have hU : ((T.setVm s.vm).setFrames (.invoking m args :: below)).localsInUse = s.localsInUse := by
      rw [State.localsInUse_invoking hF (meth := meth) (c := c) X.method X.code, State.localsInUse_invoking X.frames X.method X.code]
    simp only [State.hasRoom, Bool.and_eq_true, decide_eq_true_eq] at h ⊢
    obtain ⟨⟨⟨⟨h1, h2, h3, h4, h5, h6⟩, h7⟩, h8⟩, h9⟩ := h
    rw [X.frames, List.length_cons] at h2 h3
    have q1 := X.heapSize
    have q2 := X.used
    simp only [hF, hU, List.length_cons, State.stackLimits_setFrames, State.stackBytes_setFrames, hl9, hb9]
    refine ⟨⟨⟨⟨by omega, by omega, by omega, by omega, by omega, h6⟩, ?_⟩, ?_⟩, X.book⟩
    · show T.heap.size + R'.cells ≤ e.platform.maxCells
      omega
    · show T.slotsUsed + R'.slots ≤ e.platform.maxSlots
      omega
  · rw [State.stackLimits_setFrames]; rfl
  · rw [State.stackBytes_setFrames]; rfl
  · refine ⟨?_, Nat.le_refl _, Nat.le_refl _, ?_, ?_, fun a c9 h9 => ⟨c9, h9, rfl, rfl, fun _ _ => rfl⟩⟩
    · obtain ⟨t, ht, -⟩ := State.frames_cons hr
      show T.setVm s.vm = { ((T.setVm s.vm).setFrames (.invoking m args :: below)).setFrames (T.setVm s.vm).frames with heap := T.heap, slotsUsed := T.slotsUsed }
      rw [State.setFrames_setFrames, State.setFrames_self ht]
      rfl
    · show T.slotsUsed = T.slotsUsed + ((T.heap.toList.drop T.heap.size).map (·.slots.size)).sum
      rw [List.drop_eq_nil_of_le (Nat.le_of_eq Array.length_toList)]
      rfl
    · show ((T.heap.toList.drop T.heap.size).map (·.slots.size)).sum ≤ 0
      rw [List.drop_eq_nil_of_le (Nat.le_of_eq Array.length_toList)]
      exact Nat.le_refl _
/-- 'throw new E()': new; dup; invokespecial; athrow -/
theorem vx_throw0 {cc : ByteArray} {pc : Nat} (hexec : p.tables.exec = Jvm.exec) (hb : c.code = cc) (hl : l.stackTraces = false) {own cls : String} {names : List String} {ik ic mc ms : Nat} {A : Nat → Prop}
    (hown : s.vm.findClass own = some m.cls) (hcls : Bundle.fit cls = true) (hnames : ∀ n ∈ names, Bundle.fit n = true)
    (hk : (Cond.classLink own ik cls).before args s = true) (hini : (Cond.initialized cls).before args s = true) (hat : ∀ w ∈ vx_at0 own ic cls names, w.before args s = true)
    (hgood : ∀ w ∈ Cond.classLink own ik cls :: Cond.initialized cls :: vx_at0 own ic cls names, vx_ot w = true)
    (hU : vx_Zq Bundle.tN "UNASSIGNED_STACK" Bundle.steD A s s.heap) (hN : vx_Zq Bundle.tN "SUPPRESSED_SENTINEL" Bundle.listD A s s.heap) (hS : va_S A s.heap H locs) (hsize : ls.size = c.maxLocals)
    (d0 : decode cc pc = .ok (.new ik, 3)) (d3 : decode cc (pc + 3) = .ok (.dup, 1)) (d4 : decode cc (pc + 4) = .ok (.invokespecial ic, 3)) (d7 : decode cc (pc + 7) = .ok (.athrow, 1))
    (hout : ∀ x ∈ c.exceptionTable.toList, covers x (pc + 7) = false)
    (hRframes : names.length + 3 < R.frames) (hRlocals : (rest.map fun v => v.category).sum + (13 * (names.length + 1) + 42) ≤ R.locals) (hRcells : cells + 1 ≤ R.cells) (hRslots : slots + 6 ≤ R.slots) (hlocks : meth.locks = false)
    (hx : ∀ t : State, s.vm.Alike t.vm → H.size ≤ t.heap.size → (∀ q : Nat, q < H.size → t.heap[q]? = H[q]?) → XC cls s t)
    (hf : ∀ z ∈ locs, free z.base) (hc : cells + 1 ≤ mc) (hs : slots + 6 ≤ ms) :
    W p l e R s m args below meth c H locs cells slots (vx_MQ below Qc XC args s mc ms free) (F0 m pc ls rest) := by
  intro T hT X
  have htr : e.platform.stackTraces = false := (show e.platform.stackTraces = l.stackTraces by rw [X.admits.platform]).trans hl
  have Y := vx_rebase X (R' := { frames := R.frames, locals := R.locals, cells := 1, slots := 6 }) (Nat.le_refl _) (Nat.le_refl _) hRcells hRslots
  obtain ⟨s', hA⟩ : ∃ z, z = (T.setVm s.vm).setFrames (.invoking m args :: below) := ⟨_, rfl⟩
  rw [← hA] at Y
  have hvm : s'.vm = s.vm := by rw [hA]; rfl
  have hhp : s'.heap = H := by rw [hA]; exact hT
  have hW0 : s.WarmedH s'.vm := by rw [hvm]; exact State.WarmedH.refl s
  have hat' : ∀ w ∈ vx_at0 own ic cls names, w.before args s' = true := fun w hw => vx_ot_at hW0 hvm.symm (hgood w (List.mem_cons_of_mem _ (List.mem_cons_of_mem _ hw))) (hat w hw)
  have hk' : (Cond.classLink own ik cls).before args s' = true := vx_ot_at hW0 hvm.symm (hgood _ List.mem_cons_self) hk
  have hini' : (Cond.initialized cls).before args s' = true := vx_ot_at hW0 hvm.symm (hgood _ (List.mem_cons_of_mem _ List.mem_cons_self)) hini
  have hU' : vx_Zq Bundle.tN "UNASSIGNED_STACK" Bundle.steD A s' s'.heap := by rw [hhp]; exact vx_Zq.moved hW0.alike (hU.kept hS.2.1)
  have hN' : vx_Zq Bundle.tN "SUPPRESSED_SENTINEL" Bundle.listD A s' s'.heap := by rw [hhp]; exact vx_Zq.moved hW0.alike (hN.kept hS.2.1)
  have h : ∀ w ∈ Bundle.ownAtoms0 own ic cls names, w.before args s' = true := vx_own hat' (vx_isRefq hU'.1) (vx_isRefq hN'.1) hU'.2.word hN'.2.word
  have hown' : s'.vm.findClass own = some m.cls := by rw [hvm]; exact hown
  have hins : (Cond.instantiable cls 6).before args s' = true := h _ (by simp [Bundle.ownAtoms0])
  obtain ⟨vm₁, cX, kX, hfX, hkX, -, -, X₁, st1⟩ := Y.newCold hexec (own := own) (C := cls) (index := ik) (n := 6) hown' hk' hins hini'
    (g := F0 m pc ls rest) rfl (by rw [hb]; exact d0) (Nat.le_refl _) (Nat.le_refl _)
  generalize hT1 : (T.setVm vm₁).pushCell { cls := cX, slots := kX.instanceTypes.map defaultValue, vm := .none } = T1 at X₁ st1
  have hcat : (Value.ref T.heap.size).category = 1 := rfl
  have hcellA : T1.heap[T.heap.size]? = some (freshCell cX kX) := by rw [← hT1]; exact State.heap_pushCell_size _ _
  have d3' : decode c.code (pc + 3) = .ok (.dup, 1) := by rw [hb]; exact d3
  obtain ⟨U, hsteps, hrun, hend, hW, hsame, ce, hce, hO⟩ := X₁.ctorThrow0 hexec htr (own := own) (cls := cls) (names := names) (ic := ic) hown' hcls hnames h (fun x hx => nomatch hx) hfX hkX hcellA (by rw [hhp, hT]; exact Nat.le_refl _)
    (g := { method := m, pc := pc + 4, locals := ls, stack := .ref T.heap.size :: .ref T.heap.size :: rest, locked := none }) rfl hsize rfl rfl (rest := rest) rfl
    (by rw [hb]; exact d4) (by rw [hb]; exact d7) hout hRframes (by simp only [List.map_cons, List.sum_cons, hcat]; omega) hlocks
  obtain ⟨f1, f2⟩ := vx_frame hsame
  rw [hhp] at f1 f2
  have hWs : s.WarmedH U.vm := State.WarmedH.trans hW0 hW
  have hcl : s.vm.findClass cls = some ce.cls := by
    have h9 := hO.cls
    rw [hvm] at h9
    exact h9
  have hall : s.sameButNew ({ U with vm := s.vm } : State) locs mc ms := by
    subst hA
    obtain ⟨e1, e2⟩ := hsame
    rw [State.setFrames_setFrames] at e1
    have h2 : (T.setVm s.vm).sameButNew ({ U with vm := s.vm } : State) [] (0 + 1) (0 + 6) := ⟨e1, e2⟩
    have h3 := X.same.trans h2
    rw [List.append_nil] at h3
    exact h3.mono hc hs
  refine ⟨U, ?_, .threw T.heap.size, hrun, hend, Or.inr ⟨T.heap.size, rfl, cls, ce, locs, hx U hWs.alike f1 (fun q hq => f2 q hq (fun z hz => nomatch hz)), hce, hO.vm, hcl, hWs, hall, hf⟩⟩
  refine st1 _ ?_
  show Steps p.tables e below (T1.setTop { method := m, pc := pc + 3, locals := ls, stack := .ref T.heap.size :: rest, locked := none }) _
  jvm_step X₁.here [X₁.here.top, hexec, d3', Value.category]
  exact hsteps
/-- 'throw new E("text")': new; dup; ldc; invokespecial; athrow -/
theorem vx_throwS {cc : ByteArray} {pc : Nat} (hexec : p.tables.exec = Jvm.exec) (hb : c.code = cc) (hl : l.stackTraces = false) {own cls text : String} {names : List String} {ik is ic mc ms sa : Nat} {A : Nat → Prop}
    (hown : s.vm.findClass own = some m.cls) (hcls : Bundle.fit cls = true) (hnames : ∀ n ∈ names, Bundle.fit n = true)
    (hk : (Cond.classLink own ik cls).before args s = true) (hini : (Cond.initialized cls).before args s = true) (hstr : vk_R own is text sa s) (hat : ∀ w ∈ vx_atS own ic cls names, w.before args s = true)
    (hgood : ∀ w ∈ Cond.classLink own ik cls :: Cond.initialized cls :: vx_atS own ic cls names, vx_ot w = true)
    (hU : vx_Zq Bundle.tN "UNASSIGNED_STACK" Bundle.steD A s s.heap) (hN : vx_Zq Bundle.tN "SUPPRESSED_SENTINEL" Bundle.listD A s s.heap) (hS : va_S A s.heap H locs) (hsize : ls.size = c.maxLocals)
    (d0 : decode cc pc = .ok (.new ik, 3)) (d3 : decode cc (pc + 3) = .ok (.dup, 1)) (d4 : decode cc (pc + 4) = .ok (.ldc is, 2)) (d6 : decode cc (pc + 6) = .ok (.invokespecial ic, 3)) (d9 : decode cc (pc + 9) = .ok (.athrow, 1))
    (hout : ∀ x ∈ c.exceptionTable.toList, covers x (pc + 9) = false)
    (hRframes : names.length + 3 < R.frames) (hRlocals : (rest.map fun v => v.category).sum + (13 * (names.length + 1) + 43) ≤ R.locals) (hRcells : cells + 1 ≤ R.cells) (hRslots : slots + 6 ≤ R.slots) (hlocks : meth.locks = false)
    (hx : ∀ t : State, s.vm.Alike t.vm → H.size ≤ t.heap.size → (∀ q : Nat, q < H.size → t.heap[q]? = H[q]?) → XC cls s t)
    (hf : ∀ z ∈ locs, free z.base) (hc : cells + 1 ≤ mc) (hs : slots + 6 ≤ ms) :
    W p l e R s m args below meth c H locs cells slots (vx_MQ below Qc XC args s mc ms free) (F0 m pc ls rest) := by
  intro T hT X
  have htr : e.platform.stackTraces = false := (show e.platform.stackTraces = l.stackTraces by rw [X.admits.platform]).trans hl
  have Y := vx_rebase X (R' := { frames := R.frames, locals := R.locals, cells := 1, slots := 6 }) (Nat.le_refl _) (Nat.le_refl _) hRcells hRslots
  obtain ⟨s', hA⟩ : ∃ z, z = (T.setVm s.vm).setFrames (.invoking m args :: below) := ⟨_, rfl⟩
  rw [← hA] at Y
  have hvm : s'.vm = s.vm := by rw [hA]; rfl
  have hhp : s'.heap = H := by rw [hA]; exact hT
  have hW0 : s.WarmedH s'.vm := by rw [hvm]; exact State.WarmedH.refl s
  have hat' : ∀ w ∈ vx_atS own ic cls names, w.before args s' = true := fun w hw => vx_ot_at hW0 hvm.symm (hgood w (List.mem_cons_of_mem _ (List.mem_cons_of_mem _ hw))) (hat w hw)
  have hk' : (Cond.classLink own ik cls).before args s' = true := vx_ot_at hW0 hvm.symm (hgood _ List.mem_cons_self) hk
  have hini' : (Cond.initialized cls).before args s' = true := vx_ot_at hW0 hvm.symm (hgood _ (List.mem_cons_of_mem _ List.mem_cons_self)) hini
  have hU' : vx_Zq Bundle.tN "UNASSIGNED_STACK" Bundle.steD A s' s'.heap := by rw [hhp]; exact vx_Zq.moved hW0.alike (hU.kept hS.2.1)
  have hN' : vx_Zq Bundle.tN "SUPPRESSED_SENTINEL" Bundle.listD A s' s'.heap := by rw [hhp]; exact vx_Zq.moved hW0.alike (hN.kept hS.2.1)
  have h : ∀ w ∈ Bundle.ownAtoms own ic cls names, w.before args s' = true := vx_own hat' (vx_isRefq hU'.1) (vx_isRefq hN'.1) hU'.2.word hN'.2.word
  have hown' : s'.vm.findClass own = some m.cls := by rw [hvm]; exact hown
  have hins : (Cond.instantiable cls 6).before args s' = true := h _ (by simp [Bundle.ownAtoms])
  obtain ⟨vm₁, cX, kX, hfX, hkX, -, -, X₁, st1⟩ := Y.newCold hexec (own := own) (C := cls) (index := ik) (n := 6) hown' hk' hins hini'
    (g := F0 m pc ls rest) rfl (by rw [hb]; exact d0) (Nat.le_refl _) (Nat.le_refl _)
  generalize hT1 : (T.setVm vm₁).pushCell { cls := cX, slots := kX.instanceTypes.map defaultValue, vm := .none } = T1 at X₁ st1
  have hcat : (Value.ref T.heap.size).category = 1 := rfl
  have hcellA : T1.heap[T.heap.size]? = some (freshCell cX kX) := by rw [← hT1]; exact State.heap_pushCell_size _ _
  have d3' : decode c.code (pc + 3) = .ok (.dup, 1) := by rw [hb]; exact d3
  have d4' : decode c.code (pc + 4) = .ok (.ldc is, 2) := by rw [hb]; exact d4
  have hstr' : vk_R own is text sa s' := vk_R.warm hW0 hstr
  obtain ⟨U, hsteps, hrun, hend, hW, hsame, ce, hce, hO⟩ := X₁.ctorThrowS hexec htr (own := own) (cls := cls) (names := names) (ic := ic) hown' hcls hnames h (fun x hx => nomatch hx) hfX hkX hcellA (by rw [hhp, hT]; exact Nat.le_refl _) (msg := .ref sa) rfl
    (g := { method := m, pc := pc + 6, locals := ls, stack := .ref sa :: .ref T.heap.size :: .ref T.heap.size :: rest, locked := none }) rfl hsize rfl rfl (rest := rest) rfl
    (by rw [hb]; exact d6) (by rw [hb]; exact d9) hout hRframes (by simp only [List.map_cons, List.sum_cons, hcat]; omega) hlocks
  obtain ⟨f1, f2⟩ := vx_frame hsame
  rw [hhp] at f1 f2
  have hWs : s.WarmedH U.vm := State.WarmedH.trans hW0 hW
  have hcl : s.vm.findClass cls = some ce.cls := by
    have h9 := hO.cls
    rw [hvm] at h9
    exact h9
  have hall : s.sameButNew ({ U with vm := s.vm } : State) locs mc ms := by
    subst hA
    obtain ⟨e1, e2⟩ := hsame
    rw [State.setFrames_setFrames] at e1
    have h2 : (T.setVm s.vm).sameButNew ({ U with vm := s.vm } : State) [] (0 + 1) (0 + 6) := ⟨e1, e2⟩
    have h3 := X.same.trans h2
    rw [List.append_nil] at h3
    exact h3.mono hc hs
  refine ⟨U, ?_, .threw T.heap.size, hrun, hend, Or.inr ⟨T.heap.size, rfl, cls, ce, locs, hx U hWs.alike f1 (fun q hq => f2 q hq (fun z hz => nomatch hz)), hce, hO.vm, hcl, hWs, hall, hf⟩⟩
  refine st1 _ ?_
  show Steps p.tables e below (T1.setTop { method := m, pc := pc + 3, locals := ls, stack := .ref T.heap.size :: rest, locked := none }) _
  jvm_step X₁.here [X₁.here.top, hexec, d3', Value.category]
  exact X₁.ldcString hexec (own := own) (text := text) (index := is) (a := sa) hown' hstr'.1 hstr'.2
    (g := { method := m, pc := pc + 4, locals := ls, stack := .ref T.heap.size :: .ref T.heap.size :: rest, locked := none }) rfl d4' _ hsteps
/-- 'throw new E("text")', the text by a wide index -/
theorem vx_throwSW {cc : ByteArray} {pc : Nat} (hexec : p.tables.exec = Jvm.exec) (hb : c.code = cc) (hl : l.stackTraces = false) {own cls text : String} {names : List String} {ik is ic mc ms sa : Nat} {A : Nat → Prop}
    (hown : s.vm.findClass own = some m.cls) (hcls : Bundle.fit cls = true) (hnames : ∀ n ∈ names, Bundle.fit n = true)
    (hk : (Cond.classLink own ik cls).before args s = true) (hini : (Cond.initialized cls).before args s = true) (hstr : vk_R own is text sa s) (hat : ∀ w ∈ vx_atS own ic cls names, w.before args s = true)
    (hgood : ∀ w ∈ Cond.classLink own ik cls :: Cond.initialized cls :: vx_atS own ic cls names, vx_ot w = true)
    (hU : vx_Zq Bundle.tN "UNASSIGNED_STACK" Bundle.steD A s s.heap) (hN : vx_Zq Bundle.tN "SUPPRESSED_SENTINEL" Bundle.listD A s s.heap) (hS : va_S A s.heap H locs) (hsize : ls.size = c.maxLocals)
    (d0 : decode cc pc = .ok (.new ik, 3)) (d3 : decode cc (pc + 3) = .ok (.dup, 1)) (d4 : decode cc (pc + 4) = .ok (.ldc_w is, 3)) (d7 : decode cc (pc + 7) = .ok (.invokespecial ic, 3)) (d10 : decode cc (pc + 10) = .ok (.athrow, 1))
    (hout : ∀ x ∈ c.exceptionTable.toList, covers x (pc + 10) = false)
    (hRframes : names.length + 3 < R.frames) (hRlocals : (rest.map fun v => v.category).sum + (13 * (names.length + 1) + 43) ≤ R.locals) (hRcells : cells + 1 ≤ R.cells) (hRslots : slots + 6 ≤ R.slots) (hlocks : meth.locks = false)
    (hx : ∀ t : State, s.vm.Alike t.vm → H.size ≤ t.heap.size → (∀ q : Nat, q < H.size → t.heap[q]? = H[q]?) → XC cls s t)
    (hf : ∀ z ∈ locs, free z.base) (hc : cells + 1 ≤ mc) (hs : slots + 6 ≤ ms) :
    W p l e R s m args below meth c H locs cells slots (vx_MQ below Qc XC args s mc ms free) (F0 m pc ls rest) := by
  intro T hT X
  have htr : e.platform.stackTraces = false := (show e.platform.stackTraces = l.stackTraces by rw [X.admits.platform]).trans hl
  have Y := vx_rebase X (R' := { frames := R.frames, locals := R.locals, cells := 1, slots := 6 }) (Nat.le_refl _) (Nat.le_refl _) hRcells hRslots
  obtain ⟨s', hA⟩ : ∃ z, z = (T.setVm s.vm).setFrames (.invoking m args :: below) := ⟨_, rfl⟩
  rw [← hA] at Y
  have hvm : s'.vm = s.vm := by rw [hA]; rfl
  have hhp : s'.heap = H := by rw [hA]; exact hT
  have hW0 : s.WarmedH s'.vm := by rw [hvm]; exact State.WarmedH.refl s
  have hat' : ∀ w ∈ vx_atS own ic cls names, w.before args s' = true := fun w hw => vx_ot_at hW0 hvm.symm (hgood w (List.mem_cons_of_mem _ (List.mem_cons_of_mem _ hw))) (hat w hw)
  have hk' : (Cond.classLink own ik cls).before args s' = true := vx_ot_at hW0 hvm.symm (hgood _ List.mem_cons_self) hk
  have hini' : (Cond.initialized cls).before args s' = true := vx_ot_at hW0 hvm.symm (hgood _ (List.mem_cons_of_mem _ List.mem_cons_self)) hini
  have hU' : vx_Zq Bundle.tN "UNASSIGNED_STACK" Bundle.steD A s' s'.heap := by rw [hhp]; exact vx_Zq.moved hW0.alike (hU.kept hS.2.1)
  have hN' : vx_Zq Bundle.tN "SUPPRESSED_SENTINEL" Bundle.listD A s' s'.heap := by rw [hhp]; exact vx_Zq.moved hW0.alike (hN.kept hS.2.1)
  have h : ∀ w ∈ Bundle.ownAtoms own ic cls names, w.before args s' = true := vx_own hat' (vx_isRefq hU'.1) (vx_isRefq hN'.1) hU'.2.word hN'.2.word
  have hown' : s'.vm.findClass own = some m.cls := by rw [hvm]; exact hown
  have hins : (Cond.instantiable cls 6).before args s' = true := h _ (by simp [Bundle.ownAtoms])
  obtain ⟨vm₁, cX, kX, hfX, hkX, -, -, X₁, st1⟩ := Y.newCold hexec (own := own) (C := cls) (index := ik) (n := 6) hown' hk' hins hini'
    (g := F0 m pc ls rest) rfl (by rw [hb]; exact d0) (Nat.le_refl _) (Nat.le_refl _)
  generalize hT1 : (T.setVm vm₁).pushCell { cls := cX, slots := kX.instanceTypes.map defaultValue, vm := .none } = T1 at X₁ st1
  have hcat : (Value.ref T.heap.size).category = 1 := rfl
  have hcellA : T1.heap[T.heap.size]? = some (freshCell cX kX) := by rw [← hT1]; exact State.heap_pushCell_size _ _
  have d3' : decode c.code (pc + 3) = .ok (.dup, 1) := by rw [hb]; exact d3
  have d4' : decode c.code (pc + 4) = .ok (.ldc_w is, 3) := by rw [hb]; exact d4
  have hstr' : vk_R own is text sa s' := vk_R.warm hW0 hstr
  obtain ⟨U, hsteps, hrun, hend, hW, hsame, ce, hce, hO⟩ := X₁.ctorThrowS hexec htr (own := own) (cls := cls) (names := names) (ic := ic) hown' hcls hnames h (fun x hx => nomatch hx) hfX hkX hcellA (by rw [hhp, hT]; exact Nat.le_refl _) (msg := .ref sa) rfl
    (g := { method := m, pc := pc + 7, locals := ls, stack := .ref sa :: .ref T.heap.size :: .ref T.heap.size :: rest, locked := none }) rfl hsize rfl rfl (rest := rest) rfl
    (by rw [hb]; exact d7) (by rw [hb]; exact d10) hout hRframes (by simp only [List.map_cons, List.sum_cons, hcat]; omega) hlocks
  obtain ⟨f1, f2⟩ := vx_frame hsame
  rw [hhp] at f1 f2
  have hWs : s.WarmedH U.vm := State.WarmedH.trans hW0 hW
  have hcl : s.vm.findClass cls = some ce.cls := by
    have h9 := hO.cls
    rw [hvm] at h9
    exact h9
  have hall : s.sameButNew ({ U with vm := s.vm } : State) locs mc ms := by
    subst hA
    obtain ⟨e1, e2⟩ := hsame
    rw [State.setFrames_setFrames] at e1
    have h2 : (T.setVm s.vm).sameButNew ({ U with vm := s.vm } : State) [] (0 + 1) (0 + 6) := ⟨e1, e2⟩
    have h3 := X.same.trans h2
    rw [List.append_nil] at h3
    exact h3.mono hc hs
  refine ⟨U, ?_, .threw T.heap.size, hrun, hend, Or.inr ⟨T.heap.size, rfl, cls, ce, locs, hx U hWs.alike f1 (fun q hq => f2 q hq (fun z hz => nomatch hz)), hce, hO.vm, hcl, hWs, hall, hf⟩⟩
  refine st1 _ ?_
  show Steps p.tables e below (T1.setTop { method := m, pc := pc + 3, locals := ls, stack := .ref T.heap.size :: rest, locked := none }) _
  jvm_step X₁.here [X₁.here.top, hexec, d3', Value.category]
  exact X₁.ldcStringW hexec (own := own) (text := text) (index := is) (a := sa) hown' hstr'.1 hstr'.2
    (g := { method := m, pc := pc + 4, locals := ls, stack := .ref T.heap.size :: .ref T.heap.size :: rest, locked := none }) rfl d4' _ hsteps
end Ends
section Bodies
variable {l : Launch}
theorem vx_ofW {y : MethodName} {ws ws' : List Cond} {rm : Room} {Pc : Array Value → State → Prop} {Qc : Array Value → State → Outcome → State → Prop} {XC : String → State → State → Prop} {mc ms : Nat} {free : Addr → Prop} {cc : ByteArray} {maxL : Nat} {ret : Option FieldType}
    (hy : plainName y.cls = true) (hw : ws = Cond.code y cc maxL ret :: ws')
    (body : ∀ p e s m args below meth c s₁, BodyLoose p l y (headSpec ws rm) cc maxL ret e s m args below meth c s₁ → c.maxLocals = maxL → (∀ x ∈ c.exceptionTable.toList, False) → Pc args s →
      W p l e (headSpec ws rm).room s m args below meth c s.heap [] 0 0 (vx_MQ below Qc XC args s mc ms free) (entryFrame m args maxL)) : vx_Met l y ws rm Pc Qc XC mc ms free := by
  refine MetFree.of_bodyS (code := cc) (maxLocals := maxL) (ret := ret) hy ?_ ?_
  · intro args s m h hn
    obtain ⟨meth, c, h1, h2, h3, h4, h5, h6, -, -⟩ := Cond.code_spec hn (atoms_spec (ws := ws) h _ (by rw [hw]; exact List.mem_cons_self))
    exact ⟨meth, c, h1, h2, h3, h4, h5, h6⟩
  · intro p e s m args below meth c s₁ B hml hP _
    have hh0 : s₁.heap = s.heap := by rw [B.state]; rfl
    have ht : ∀ x ∈ c.exceptionTable.toList, False := by
      obtain ⟨meth9, c9, h1, h2, -, -, -, -, h7, -⟩ := Cond.code_spec B.named (atoms_spec (ws := ws) B.pre _ (by rw [hw]; exact List.mem_cons_self))
      cases Option.some.inj (h1.symm.trans B.method)
      cases Option.some.inj (h2.symm.trans (Stand.of_body B).code)
      intro x hx
      rw [Array.isEmpty_iff.mp h7] at hx
      cases hx
    obtain ⟨t, a1, o, b1, b2, b3⟩ := body p e s m args below meth c s₁ B hml ht hP s₁ hh0 (Stand.of_body B)
    exact ⟨t, o, a1, b1, b2, b3⟩
/-- the table of a body with handlers -/
theorem vx_table {p : Program} {x y : MethodName} {S : Spec} {cc bytes : ByteArray} {maxL maxL' : Nat} {ret ret' : Option FieldType} {e : Env} {s s₁ : State} {m : MethodId} {args : Array Value} {below : List Frame} {meth : Method} {c : Code} {hh : List (Nat × Nat × Nat × Nat)}
    (B : BodyLoose p l y S cc maxL ret e s m args below meth c s₁) (h : (Cond.codeWith y bytes maxL' ret' hh).before args s = true) : c.exceptionTable.toList = tableOf hh := by
  obtain ⟨m9, meth9, c9, hn9, h1, h2, -, -, h6, -⟩ := Cond.codeWith_spec h
  cases Option.some.inj (hn9.symm.trans B.named)
  cases Option.some.inj (h1.symm.trans B.method)
  cases Option.some.inj (h2.symm.trans (Stand.of_body B).code)
  rw [← h6, table_eq]
end Bodies
end VXA
/-! ===== END ===== -/
/-! ===== BEGIN a static call of a method with an exception table ===== -/
section VXS
variable {p : Program} {l : Launch} {e : Env} {R : Room} {s : State} {m : MethodId} {args : Array Value} {below : List Frame} {meth : Method} {c : Code} {T : State} {H : Heap} {locs : List Loc} {cells slots : Nat}
abbrev vx_CSW (R : Room) (s : State) (args : Array Value) (own : String) (index : Nat) (y : MethodName) (bytes : ByteArray) (maxL : Nat) (ret : Option FieldType) (hh : List (Nat × Nat × Nat × Nat)) (ws : List Cond) (rm : Room) (mc ms n : Nat) : Prop :=
  (rm.cells = mc ∧ rm.slots = ms ∧ rm.frames + 1 ≤ R.frames ∧ 8 + (maxL + 11) + rm.locals ≤ R.locals ∧ (∀ w ∈ ws, ∀ (a' : Array Value) (U : State), s.WarmedH U.vm → w.before a' U = true) ∧ Cond.codeWith y bytes maxL ret hh ∈ ws) ∧
  (Cond.codeWith y bytes maxL ret hh).before args s = true ∧ (Cond.initialized y.cls).before args s = true ∧ (y.cls ≠ "java/lang/invoke/MethodHandle" ∧ y.cls ≠ "java/lang/invoke/VarHandle") ∧
  (∀ sig, parseMethodDescriptor y.desc = some sig → n = sig.parameters.length) ∧ (Cond.methodLink own index y).before args s = true ∧ (Cond.static y).before args s = true
theorem vx_cwSW {own : String} {index maxL mc ms : Nat} {y : MethodName} {bytes : ByteArray} {ret : Option FieldType} {hh : List (Nat × Nat × Nat × Nat)} {Ts ws ws' : List Cond} {rm : Room} (n : Nat) (ht : ∀ w ∈ Ts, w.before args s = true) (hT : GoodIn Ts (va_wsS own index y ws)) (hw : ws = Cond.codeWith y bytes maxL ret hh :: ws') (hrc : rm.cells = mc) (hrs : rm.slots = ms)
    (hd : y.cls ≠ "java/lang/invoke/MethodHandle" ∧ y.cls ≠ "java/lang/invoke/VarHandle" ∧ (parseMethodDescriptor y.desc).map (fun d => d.parameters.length) = some n) (hR : rm.frames + 1 ≤ R.frames ∧ 8 + (maxL + 11) + rm.locals ≤ R.locals) :
    vx_CSW R s args own index y bytes maxL ret hh ws rm mc ms n := by
  have ok : ∀ w ∈ va_wsS own index y ws, w.before args s = true := fun w h => ht w (hT w h).1
  have hG : GoodIn Ts ws := fun w h => hT w (by unfold va_wsS; exact List.mem_append_right _ h)
  have hc : Cond.codeWith y bytes maxL ret hh ∈ ws := by rw [hw]; exact List.mem_cons_self
  refine ⟨⟨hrc, hrs, hR.1, hR.2, pay_in ht hG, hc⟩, ht _ (hG _ hc).1, ok _ (by simp [va_wsS]), ⟨hd.1, hd.2.1⟩, fun sig h => ?_, ok _ (by simp [va_wsS]), ok _ (by simp [va_wsS])⟩
  have h2 := hd.2.2
  rw [h] at h2
  exact (Option.some.inj h2).symm
theorem vx_callSW (X : Stand p l e R s m args below meth c T locs cells slots) (hexec : p.tables.exec = Jvm.exec) {own : String} {index : Nat} {y : MethodName} {bytes : ByteArray} {maxL : Nat} {ret : Option FieldType} {hh : List (Nat × Nat × Nat × Nat)}
    (hown : s.vm.findClass own = some m.cls) (hlink : (Cond.methodLink own index y).before args s = true) (hstat : (Cond.static y).before args s = true) (hinit : (Cond.initialized y.cls).before args s = true)
    (hcode : (Cond.codeWith y bytes maxL ret hh).before args s = true) (hy : y.cls ≠ "java/lang/invoke/MethodHandle" ∧ y.cls ≠ "java/lang/invoke/VarHandle")
    {W9 : Nat} {Pre : Pt → Array Value → Prop} {Post : Pt → Array Value → Option Value → Pt → Prop} (hK : Back l R p e below s args y 3 W9 Pre Post)
    {g : JFrame} (hg : g.method = m) (hsize : g.locals.size = c.maxLocals) {argsL rest : List Value} (hlen : ∀ sig, parseMethodDescriptor y.desc = some sig → argsL.length = sig.parameters.length)
    (hstack : g.stack = argsL.reverse ++ rest) (hW : 2 * g.monitorRoom + (rest.map fun v => v.category).sum ≤ W9) (hdg : decode c.code g.pc = .ok (.invokestatic index, 3))
    (hpre : ∀ vm₁, s.WarmedH vm₁ → Pre ⟨T.setVm vm₁, locs, cells, slots⟩ argsL.toArray) :
    ∃ (v : Option Value) (vm₁ : Vm) (B : Pt), s.WarmedH vm₁ ∧ Stand p l e R s m args below meth c B.U B.locs B.cells B.slots ∧ Post ⟨T.setVm vm₁, locs, cells, slots⟩ argsL.toArray v B ∧
      ∀ target, Steps p.tables e below (B.U.setTop { g with pc := g.pc + 3, stack := v.toList ++ rest }) target → Steps p.tables e below (T.setTop g) target := by
  obtain ⟨mk, methM, cM, hnamed, hmethM, -, -, -, -, -, -, hsigM⟩ := Cond.codeWith_spec hcode
  have hstatic : methM.isStatic = true := Cond.static_spec hnamed hmethM hstat
  obtain ⟨kP, hkP, -⟩ := className_of_methodNamed hnamed
  have hinitP : kP.init = .initialized := Cond.initialized_spec (findClass_of_methodNamed hnamed) hkP hinit
  obtain ⟨vm₁, X₁, hstep₁⟩ := X.invokestatic hexec hown hlink hnamed hmethM hstatic hkP hinitP hy (g := g) hg (argsL := argsL) (rest := rest) (hlen _ hsigM) hstack hdg
  obtain ⟨v, B, X', hpost, hsteps⟩ := hK m meth c ⟨T.setVm vm₁, locs, cells, slots⟩ { g with stack := rest } (.invokestatic index) mk argsL.toArray X₁ hg hsize hdg hW (X₁.named hnamed) (hpre vm₁ X₁.warmed)
  exact ⟨v, vm₁, B, X₁.warmed, X', hpost, fun target h => hstep₁ _ fun acts => by rw [doInvoke_state]; exact hsteps.trans h⟩
theorem vx_runSW {y : MethodName} {bytes cc : ByteArray} {maxL nL mc ms n index : Nat} {ret : Option FieldType} {hh : List (Nat × Nat × Nat × Nat)} {ws : List Cond} {rm : Room} {Pc : Array Value → State → Prop} {Qc : Array Value → State → Outcome → State → Prop} {free : Addr → Prop} {Ts : List Cond} {own : String} {As rest : List Value} {g : JFrame}
    (S : CallFix p m c cc nL s args Ts own) (hM : Met l y ws rm Pc Qc mc ms free) (cw : vx_CSW R s args own index y bytes maxL ret hh ws rm mc ms n) (hp : PreS s H Pc As)
    (hg : g.method = m) (hn : As.length = n) (hsize : g.locals.size = nL) (hstack : g.stack = As.reverse ++ rest) (hW : 2 * g.monitorRoom + (rest.map fun v => v.category).sum ≤ 8) (hdg : decode cc g.pc = .ok (.invokestatic index, 3)) (hf : cells + mc ≤ R.cells ∧ slots + ms ≤ R.slots) :
    va_Run p l e R s m args below meth c H locs cells slots mc ms g rest (Qc As.toArray) (free) := by
  obtain ⟨⟨hrc, hrs, hfr, hlo, hws, hcw⟩, hcode, hini, hy, hlen, hl, hstt⟩ := cw
  have hK : Back l R p e below s args y 3 8 (PreOf R mc ms Pc) (PostOf Qc mc ms free) := va_backW (hh := hh) (bytes := bytes) (maxL := maxL) (ret := ret) hM hp.1 hrc hrs hfr hlo hws hcw (fun a' U hW => word_at hW (Or.inl (by first | rfl | simp [Cond.onTables, Cond.keeps, Cond.steady])) hini)
  obtain ⟨hx, hb, hml, ho, -⟩ := S
  intro T hT X
  obtain ⟨v, vm₁, ⟨U', l2, c2, s2⟩, hW₁, X', ⟨g', mk, t, L, e1, e2, hq, h1, hL, h2, h3⟩, st⟩ := vx_callSW X hx (hh := hh) (bytes := bytes) (maxL := maxL) (ret := ret) ho hl hstt hini hcode hy hK hg (hsize.trans hml.symm) (argsL := As) (rest := rest) (fun sig h => hn.trans (hlen sig h)) hstack hW (by rw [hb]; exact hdg)
    (fun vm₁ hW₁ => ⟨hf.1, hf.2, hp.2 (T.setVm vm₁) hT hW₁⟩)
  dsimp only [Pt.U, Pt.locs, Pt.cells, Pt.slots] at X' e1 e2 h1 h2 h3 st
  subst h1; subst h2; subst h3
  exact ⟨v, (T.setVm vm₁).calling g' mk As.toArray, t, U', L, hT, X', hL, e1, e2, hq, st⟩
/-- not caught here, past rows that name other classes: it goes on to the caller -/
theorem vx_outP {p : Program} {l : Launch} {e : Env} {R : Room} {s : State} {m : MethodId} {args : Array Value} {below : List Frame} {meth : Method} {c : Code} {H : Heap} {locs : List Loc} {cells slots : Nat} {free : Addr → Prop} {ls : Array Slot} {rest : List Value} {Qc : Array Value → State → Outcome → State → Prop} {XC : String → State → State → Prop}
    {pc : Nat} {own E : String} {ce : Cell} {q : Addr} {mc ms : Nat} (hown : s.vm.findClass own = some m.cls) (hlocks : meth.locks = false)
    (hpass : ∀ z ∈ c.exceptionTable.toList, covers z pc = false ∨ (z.catchType ≠ 0 ∧ ∃ nm : String, (Cond.classLink own z.catchType nm).before args s = true ∧ va_Nc E nm s)) (hcell : H[q]? = some ce) (hv : ce.vm = .none) (hcl : s.vm.findClass E = some ce.cls)
    (hx : ∀ t : State, t.heap = H → s.vm.Alike t.vm → XC E s t) (hf : ∀ z ∈ locs, free z.base) (hc : cells ≤ mc) (hs : slots ≤ ms) :
    vx_W p l e R s m args below meth c H locs cells slots (vx_MQ below Qc XC args s mc ms free) (F0 m pc ls rest) q := by
  intro T hT X
  have hpl : e.platform.magicAccessors = ({} : Platform).magicAccessors := by rw [X.admits.platform]
  obtain ⟨vm', hW', X', st⟩ := X.outThrough hlocks q (g := F0 m pc ls rest) rfl rfl rfl (cell := ce) (by rw [hT]; exact hcell) (by rw [hv]; rfl)
    (by obtain ⟨k9, h9, -⟩ := Vm.findClass_spec hcl; exact ⟨k9, h9⟩) (fun z hz => by
      rcases hpass z hz with h | ⟨hz0, nm, hl1, hn1⟩
      · exact Or.inl h
      · obtain ⟨c6, hc6, hcl6⟩ := Cond.classLink_spec hown hl1 e.platform hpl
        obtain ⟨a8, b8, h1, h2, h3⟩ := hn1
        cases Option.some.inj (h1.symm.trans hcl)
        cases Option.some.inj (h2.symm.trans hc6)
        exact Or.inr ⟨hz0, _, hcl6, h3⟩)
  obtain ⟨g₀, hfr⟩ := X'.frames_eq
  have hcell9 : ((T.setVm vm').setFrames (.throwing q :: below)).heap[q]? = some ce := by
    show T.heap[q]? = some ce
    rw [hT]; exact hcell
  have hend : Ended ((T.setVm vm').setFrames (.throwing q :: below)) below (.threw q) := State.frames_setFrames _ (State.cur_lt_of_frames hfr)
  refine ⟨(T.setVm vm').setFrames (.throwing q :: below), ?_, .threw q, X'.here.running, hend, Or.inr ⟨q, rfl, E, ce, locs, hx _ hT (X'.ends _).1.alike, hcell9, hv, hcl, (X'.ends _).1, (X'.ends _).2.mono hc hs, hf⟩⟩
  rw [X.pushThrowing_eq]
  exact st
/-- a thing of a world lies in the heap -/
theorem vx_lt {D : va_G} {cl : List vw_C} {ws : va_W} {H1 : Heap} (h : va_P D cl ws H1) {k : Nat} {q : Nat × va_E} (hk : ws[k]? = some q) : q.1 < H1.size := (h k q hk).lt
end VXS
/-! ===== END ===== -/
/-! ===== BEGIN methods with a table of their own: called by a name, returning or throwing ===== -/
section VXH
/-! vx_backW, vx_callVX, vx_callSX, vx_callVW, vx_runVW, vx_runVX, vx_runSX, vx_ofWH follow the same proofs as their sisters above (Free/Laws.lean, Shelf42/LK1.lean); vx_outP calls Shelf42/NT130.lean (outThrough). -/
section
variable {l : Launch} {R : Room} {p : Program} {e : Env} {below : List Frame} {s : State} {sargs : Array Value} {y : MethodName} {len W9 : Nat}
theorem vx_backW {ws : List Cond} {rm : Room} {Pc : Array Value → State → Prop} {Qc : Array Value → State → Outcome → State → Prop} {XC : String → State → State → Prop} {mc ms : Nat} {free : Addr → Prop} {bytes : ByteArray} {maxL : Nat} {ret : Option FieldType} {hh : List (Nat × Nat × Nat × Nat)}
    (hM : vx_Met l y ws rm Pc Qc XC mc ms free) (hblind : FrameBlind Pc) (hrc : rm.cells = mc) (hrs : rm.slots = ms)
    (hframes : rm.frames + 1 ≤ R.frames) (hlocals : W9 + (maxL + 11) + rm.locals ≤ R.locals)
    (hws : ∀ w ∈ ws, ∀ a' U, s.WarmedH U.vm → w.before a' U = true) (hcode : Cond.codeWith y bytes maxL ret hh ∈ ws) (hinit : ∀ a' U, s.WarmedH U.vm → (Cond.initialized y.cls).before a' U = true) :
    vx_Back l R p e below s sargs y len W9 (PreOf R mc ms Pc) (PostOf Qc mc ms free) (vx_Post XC mc ms free) := by
  intro m meth c A g ig mk a X hg hsize hdg hW hn hp
  have h1 : (headSpec ws rm).pre.before a A.U = true := atoms_intro fun w hw => hws w hw _ _ X.warmed
  have h2 : (Cond.codeWith y bytes maxL ret hh).before a A.U = true := hws _ hcode _ _ X.warmed
  have h3 : (Cond.initialized y.cls).before a A.U = true := hinit _ _ X.warmed
  have h4 : A.cells + (headSpec ws rm).room.cells ≤ R.cells := by rw [show (headSpec ws rm).room.cells = mc from hrc]; exact hp.1
  have h5 : A.slots + (headSpec ws rm).room.slots ≤ R.slots := by rw [show (headSpec ws rm).room.slots = ms from hrs]; exact hp.2.1
  have hPc : Pc a (A.U.calling g mk a) := hblind _ _ _ _ hp.2.2
  obtain ⟨U, Ls, c0, s0⟩ := A
  dsimp only [Pt.U, Pt.locs, Pt.cells, Pt.slots] at h1 h2 h3 h4 h5 X hn hPc ⊢
  obtain ⟨m9, methY, cY, hn9, hmY, hcY, -, hlY, -⟩ := Cond.codeWith_spec h2
  cases Option.some.inj (hn9.symm.trans hn)
  obtain ⟨kY, hkY, -⟩ := className_of_methodNamed hn
  have hinitY : kY.init = .initialized := Cond.initialized_spec (findClass_of_methodNamed hn) hkY h3
  have h : At U g.method c below := by rw [hg]; exact X.here
  have hlocals9 : W9 + (maxL + 11) + (headSpec ws rm).room.locals ≤ R.locals := hlocals
  have happ : (headSpec ws rm).appliesLoose y e.platform (U.calling g mk a) = true :=
    Spec.appliesLoose_calling (g := g) h hdg hn hkY hinitY
      (X.room_calling (g := g) (R' := (headSpec ws rm).room) hsize hmY hcY hframes (by rw [hlY]; omega) h4 h5) h1
  obtain ⟨mid, hmid⟩ := h.above
  have hfr : (U.setTop g).frames = (.java g :: mid) ++ below := by rw [State.frames_setTop' g h.top, hmid]; rfl
  obtain ⟨o, s₂, hsteps, -, hend, hq⟩ := Steps.callFree hM p X.admits X.cas X.clock (acts := []) hfr happ hPc trivial
  have hq' : vx_Q Qc XC mc ms free a (U.calling g mk a) o s₂ := hq
  rw [State.frames_setTop' g h.top] at hend
  obtain ⟨g₀, hg0⟩ := Option.isSome_iff_exists.mp h.top
  obtain ⟨r, hr⟩ := State.topJava?_eq_some.mp hg0
  have hr' : (({ U with heap := s₂.heap, slotsUsed := s₂.slotsUsed } : State).setVm s₂.vm).frames = .java g₀ :: r := hr
  rcases hq' with ⟨hqc, L, hfe, hL⟩ | ⟨q, rfl, E, ce, L, hx, hce, hcv, hcl, hW₂, hsm, hL⟩
  · obtain ⟨⟨v, rfl⟩, hW₂, e2, q2, q3, q4, q5, q6⟩ := id hfe
    have e3 : s₂ = ({ (U.calling g mk a).setFrames s₂.frames with heap := s₂.heap, slotsUsed := s₂.slotsUsed } : State).setVm s₂.vm := by
      have : s₂ = ({ s₂ with vm := (U.calling g mk a).vm } : State).setVm s₂.vm := rfl
      rw [e2] at this
      exact this
    obtain ⟨c₂, i₂, len₂, hc₂, hd₂, hf₂⟩ := hend
    have hW' : U.WarmedH s₂.vm := hW₂
    have hcc : c₂ = c := by
      have h1 : s₂.code? g.method = U.code? g.method := by
        rw [State.code?_eq, State.code?_eq, hW'.alike.method?]
      exact Option.some.inj (hc₂.symm.trans (h1.trans h.code))
    subst hcc
    have hlen : len₂ = len := by rw [hdg] at hd₂; cases hd₂; rfl
    subst hlen
    have hs₂ : s₂ = (({ U with heap := s₂.heap, slotsUsed := s₂.slotsUsed } : State).setVm s₂.vm).setTop { g with pc := g.pc + len₂, stack := v.toList ++ g.stack } := by
      refine e3.trans ?_
      rw [hf₂, State.calling_eq h.top, State.setFrames_setFrames, State.setTop_of_frames _ hr', hr]
      rfl
    have hsame : U.sameButNew ({ U with heap := s₂.heap, slotsUsed := s₂.slotsUsed } : State) L mc ms := by
      refine ⟨?_, q2, q3, q4, q5, q6⟩
      obtain ⟨t, ht, -⟩ := State.frames_cons hr
      show ({ U with heap := s₂.heap, slotsUsed := s₂.slotsUsed } : State) = { U.setFrames U.frames with heap := s₂.heap, slotsUsed := s₂.slotsUsed }
      rw [State.setFrames_self ht]
    subst hg
    refine Or.inl ⟨v, ⟨(({ U with heap := s₂.heap, slotsUsed := s₂.slotsUsed } : State).setVm s₂.vm), Ls ++ L, c0 + mc, s0 + ms⟩,
      ⟨X.admits, X.cas, X.clock, X.frames, X.room, X.hears, X.method, X.code, (X.here.setHeapUsed s₂.heap s₂.slotsUsed).setVm hW'.alike, X.tail, State.WarmedH.trans X.warmed hW', X.limits, X.bytes, X.same.trans (hsame.setVm s.vm)⟩,
      ⟨g, mk, s₂, L, rfl, rfl, hqc, rfl, hL, rfl, rfl⟩, ?_⟩
    show Steps p.tables e below _ ((({ U with heap := s₂.heap, slotsUsed := s₂.slotsUsed } : State).setVm s₂.vm).setTop { g with pc := g.pc + len₂, stack := v.toList ++ g.stack })
    rw [← hs₂]
    exact hsteps
  · obtain ⟨e2, q2, q3, q4, q5, q6⟩ := id hsm
    have e3 : s₂ = ({ (U.calling g mk a).setFrames s₂.frames with heap := s₂.heap, slotsUsed := s₂.slotsUsed } : State).setVm s₂.vm := by
      have : s₂ = ({ s₂ with vm := (U.calling g mk a).vm } : State).setVm s₂.vm := rfl
      rw [e2] at this
      exact this
    have hf₂ : s₂.frames = .throwing q :: .java g :: U.frames.tail := hend
    have hW' : U.WarmedH s₂.vm := hW₂
    have hs₂ : s₂ = ((({ U with heap := s₂.heap, slotsUsed := s₂.slotsUsed } : State).setVm s₂.vm).setTop g).pushFrame (.throwing q) := by
      refine e3.trans ?_
      rw [hf₂, State.calling_eq h.top, State.setFrames_setFrames, State.pushFrame, State.frames_setTop _ hr', State.setTop_of_frames _ hr', State.setFrames_setFrames, hr]
      rfl
    have hsame : U.sameButNew ({ U with heap := s₂.heap, slotsUsed := s₂.slotsUsed } : State) L mc ms := by
      refine ⟨?_, q2, q3, q4, q5, q6⟩
      obtain ⟨t, ht, -⟩ := State.frames_cons hr
      show ({ U with heap := s₂.heap, slotsUsed := s₂.slotsUsed } : State) = { U.setFrames U.frames with heap := s₂.heap, slotsUsed := s₂.slotsUsed }
      rw [State.setFrames_self ht]
    subst hg
    refine Or.inr ⟨q, ⟨(({ U with heap := s₂.heap, slotsUsed := s₂.slotsUsed } : State).setVm s₂.vm), Ls ++ L, c0 + mc, s0 + ms⟩,
      ⟨X.admits, X.cas, X.clock, X.frames, X.room, X.hears, X.method, X.code, (X.here.setHeapUsed s₂.heap s₂.slotsUsed).setVm hW'.alike, X.tail, State.WarmedH.trans X.warmed hW', X.limits, X.bytes, X.same.trans (hsame.setVm s.vm)⟩,
      ⟨g, mk, s₂, L, E, ce, rfl, rfl, hx, hce, hcv, hcl, rfl, hL, rfl, rfl⟩, ?_⟩
    show Steps p.tables e below _ (((({ U with heap := s₂.heap, slotsUsed := s₂.slotsUsed } : State).setVm s₂.vm).setTop g).pushFrame (.throwing q))
    rw [← hs₂]
    exact hsteps
end
variable {p : Program} {l : Launch} {e : Env} {R : Room} {s : State} {m : MethodId} {args : Array Value} {below : List Frame} {meth : Method} {c : Code} {T : State} {H : Heap} {locs : List Loc} {cells slots : Nat}
theorem vx_callVX (X : Stand p l e R s m args below meth c T locs cells slots) (hexec : p.tables.exec = Jvm.exec) {own C : String} {index : Nat} {y : MethodName} {bytes : ByteArray} {maxL : Nat} {ret : Option FieldType} {hh : List (Nat × Nat × Nat × Nat)}
    (hown : s.vm.findClass own = some m.cls) (hlink : (Cond.methodLink own index y).before args s = true) (hinst : (Cond.instanceMethod y).before args s = true) (hsel : (Cond.selects C y y).before args s = true)
    (hcode : (Cond.codeWith y bytes maxL ret hh).before args s = true) (hy : y.cls ≠ "java/lang/invoke/MethodHandle" ∧ y.cls ≠ "java/lang/invoke/VarHandle")
    {W9 : Nat} {Pre : Pt → Array Value → Prop} {Post : Pt → Array Value → Option Value → Pt → Prop} {PostX : Pt → Array Value → Addr → Pt → Prop} (hK : vx_Back l R p e below s args y 3 W9 Pre Post PostX)
    {b : Addr} {cellB : Cell} (hcell : T.heap[b]? = some cellB) (hobj : cellB.vm.isStatics = false) (hcls : s.vm.findClass C = some cellB.cls)
    {g : JFrame} (hg : g.method = m) (hsize : g.locals.size = c.maxLocals) {argsL rest : List Value} (hlen : ∀ sig, parseMethodDescriptor y.desc = some sig → argsL.length = sig.parameters.length)
    (hstack : g.stack = argsL.reverse ++ .ref b :: rest) (hW : 2 * g.monitorRoom + (rest.map fun v => v.category).sum ≤ W9) (hdg : decode c.code g.pc = .ok (.invokevirtual index, 3))
    (hpre : ∀ vm₁, s.WarmedH vm₁ → Pre ⟨T.setVm vm₁, locs, cells, slots⟩ (Value.ref b :: argsL).toArray) :
    (∃ (v : Option Value) (vm₁ : Vm) (B : Pt), s.WarmedH vm₁ ∧ Stand p l e R s m args below meth c B.U B.locs B.cells B.slots ∧ Post ⟨T.setVm vm₁, locs, cells, slots⟩ (Value.ref b :: argsL).toArray v B ∧
      ∀ target, Steps p.tables e below (B.U.setTop { g with pc := g.pc + 3, stack := v.toList ++ rest }) target → Steps p.tables e below (T.setTop g) target) ∨
    (∃ (q : Addr) (vm₁ : Vm) (B : Pt), s.WarmedH vm₁ ∧ Stand p l e R s m args below meth c B.U B.locs B.cells B.slots ∧ PostX ⟨T.setVm vm₁, locs, cells, slots⟩ (Value.ref b :: argsL).toArray q B ∧
      Steps p.tables e below (T.setTop g) ((B.U.setTop { g with stack := rest }).pushFrame (.throwing q))) := by
  obtain ⟨mk, methM, hnamed, hmethM, hstM, habM⟩ := Cond.instanceMethod_spec hinst
  obtain ⟨m8, methM', cM, hn8, hmethM', -, -, -, -, -, -, hsigM⟩ := Cond.codeWith_spec hcode
  cases Option.some.inj (hn8.symm.trans hnamed)
  cases hmethM.symm.trans hmethM'
  obtain ⟨c2, r2, m2, q1, q2, q3, q4, kP, hkP, hkPi⟩ := Cond.selects_spec hsel
  cases hcls.symm.trans q1
  cases (State.methodFound?_of_named hnamed hy).symm.trans q2
  cases hnamed.symm.trans q3
  have hselP : selectMethod e.platform s.vm cellB.cls mk = .method mk := by rw [Launch.admits_selectMethod X.admits]; exact q4
  obtain ⟨vm₁, X₁, hstep₁⟩ := X.invokevirtual hexec hown hlink hnamed hmethM hstM hkP hkPi hy (a := b) (cell := cellB) hcell
    (fun z h => by rw [h] at hobj; cases hobj) hselP hmethM habM hkP hkPi (g := g) hg (argsL := argsL) (rest := rest) (hlen _ hsigM) hstack hdg
  rcases hK m meth c ⟨T.setVm vm₁, locs, cells, slots⟩ { g with stack := rest } (.invokevirtual index) mk (Value.ref b :: argsL).toArray X₁ hg hsize hdg hW (X₁.named hnamed) (hpre vm₁ X₁.warmed) with ⟨v, B, X', hpost, hsteps⟩ | ⟨q, B, X', hpost, hsteps⟩
  · exact Or.inl ⟨v, vm₁, B, X₁.warmed, X', hpost, fun target h => hstep₁ _ fun acts => by rw [doInvoke_state]; exact hsteps.trans h⟩
  · exact Or.inr ⟨q, vm₁, B, X₁.warmed, X', hpost, hstep₁ _ fun acts => by rw [doInvoke_state]; exact hsteps⟩
theorem vx_callSX (X : Stand p l e R s m args below meth c T locs cells slots) (hexec : p.tables.exec = Jvm.exec) {own : String} {index : Nat} {y : MethodName} {bytes : ByteArray} {maxL : Nat} {ret : Option FieldType} {hh : List (Nat × Nat × Nat × Nat)}
    (hown : s.vm.findClass own = some m.cls) (hlink : (Cond.methodLink own index y).before args s = true) (hstat : (Cond.static y).before args s = true) (hinit : (Cond.initialized y.cls).before args s = true)
    (hcode : (Cond.codeWith y bytes maxL ret hh).before args s = true) (hy : y.cls ≠ "java/lang/invoke/MethodHandle" ∧ y.cls ≠ "java/lang/invoke/VarHandle")
    {W9 : Nat} {Pre : Pt → Array Value → Prop} {Post : Pt → Array Value → Option Value → Pt → Prop} {PostX : Pt → Array Value → Addr → Pt → Prop} (hK : vx_Back l R p e below s args y 3 W9 Pre Post PostX)
    {g : JFrame} (hg : g.method = m) (hsize : g.locals.size = c.maxLocals) {argsL rest : List Value} (hlen : ∀ sig, parseMethodDescriptor y.desc = some sig → argsL.length = sig.parameters.length)
    (hstack : g.stack = argsL.reverse ++ rest) (hW : 2 * g.monitorRoom + (rest.map fun v => v.category).sum ≤ W9) (hdg : decode c.code g.pc = .ok (.invokestatic index, 3))
    (hpre : ∀ vm₁, s.WarmedH vm₁ → Pre ⟨T.setVm vm₁, locs, cells, slots⟩ argsL.toArray) :
    (∃ (v : Option Value) (vm₁ : Vm) (B : Pt), s.WarmedH vm₁ ∧ Stand p l e R s m args below meth c B.U B.locs B.cells B.slots ∧ Post ⟨T.setVm vm₁, locs, cells, slots⟩ argsL.toArray v B ∧
      ∀ target, Steps p.tables e below (B.U.setTop { g with pc := g.pc + 3, stack := v.toList ++ rest }) target → Steps p.tables e below (T.setTop g) target) ∨
    (∃ (q : Addr) (vm₁ : Vm) (B : Pt), s.WarmedH vm₁ ∧ Stand p l e R s m args below meth c B.U B.locs B.cells B.slots ∧ PostX ⟨T.setVm vm₁, locs, cells, slots⟩ argsL.toArray q B ∧
      Steps p.tables e below (T.setTop g) ((B.U.setTop { g with stack := rest }).pushFrame (.throwing q))) := by
  obtain ⟨mk, methM, cM, hnamed, hmethM, -, -, -, -, -, -, hsigM⟩ := Cond.codeWith_spec hcode
  have hstatic : methM.isStatic = true := Cond.static_spec hnamed hmethM hstat
  obtain ⟨kP, hkP, -⟩ := className_of_methodNamed hnamed
  have hinitP : kP.init = .initialized := Cond.initialized_spec (findClass_of_methodNamed hnamed) hkP hinit
  obtain ⟨vm₁, X₁, hstep₁⟩ := X.invokestatic hexec hown hlink hnamed hmethM hstatic hkP hinitP hy (g := g) hg (argsL := argsL) (rest := rest) (hlen _ hsigM) hstack hdg
  rcases hK m meth c ⟨T.setVm vm₁, locs, cells, slots⟩ { g with stack := rest } (.invokestatic index) mk argsL.toArray X₁ hg hsize hdg hW (X₁.named hnamed) (hpre vm₁ X₁.warmed) with ⟨v, B, X', hpost, hsteps⟩ | ⟨q, B, X', hpost, hsteps⟩
  · exact Or.inl ⟨v, vm₁, B, X₁.warmed, X', hpost, fun target h => hstep₁ _ fun acts => by rw [doInvoke_state]; exact hsteps.trans h⟩
  · exact Or.inr ⟨q, vm₁, B, X₁.warmed, X', hpost, hstep₁ _ fun acts => by rw [doInvoke_state]; exact hsteps⟩
theorem vx_callVW (X : Stand p l e R s m args below meth c T locs cells slots) (hexec : p.tables.exec = Jvm.exec) {own C : String} {index : Nat} {y : MethodName} {bytes : ByteArray} {maxL : Nat} {ret : Option FieldType} {hh : List (Nat × Nat × Nat × Nat)}
    (hown : s.vm.findClass own = some m.cls) (hlink : (Cond.methodLink own index y).before args s = true) (hinst : (Cond.instanceMethod y).before args s = true) (hsel : (Cond.selects C y y).before args s = true)
    (hcode : (Cond.codeWith y bytes maxL ret hh).before args s = true) (hy : y.cls ≠ "java/lang/invoke/MethodHandle" ∧ y.cls ≠ "java/lang/invoke/VarHandle")
    {W9 : Nat} {Pre : Pt → Array Value → Prop} {Post : Pt → Array Value → Option Value → Pt → Prop} (hK : Back l R p e below s args y 3 W9 Pre Post)
    {b : Addr} {cellB : Cell} (hcell : T.heap[b]? = some cellB) (hobj : cellB.vm.isStatics = false) (hcls : s.vm.findClass C = some cellB.cls)
    {g : JFrame} (hg : g.method = m) (hsize : g.locals.size = c.maxLocals) {argsL rest : List Value} (hlen : ∀ sig, parseMethodDescriptor y.desc = some sig → argsL.length = sig.parameters.length)
    (hstack : g.stack = argsL.reverse ++ .ref b :: rest) (hW : 2 * g.monitorRoom + (rest.map fun v => v.category).sum ≤ W9) (hdg : decode c.code g.pc = .ok (.invokevirtual index, 3))
    (hpre : ∀ vm₁, s.WarmedH vm₁ → Pre ⟨T.setVm vm₁, locs, cells, slots⟩ (Value.ref b :: argsL).toArray) :
    ∃ (v : Option Value) (vm₁ : Vm) (B : Pt), s.WarmedH vm₁ ∧ Stand p l e R s m args below meth c B.U B.locs B.cells B.slots ∧ Post ⟨T.setVm vm₁, locs, cells, slots⟩ (Value.ref b :: argsL).toArray v B ∧
      ∀ target, Steps p.tables e below (B.U.setTop { g with pc := g.pc + 3, stack := v.toList ++ rest }) target → Steps p.tables e below (T.setTop g) target := by
  obtain ⟨mk, methM, hnamed, hmethM, hstM, habM⟩ := Cond.instanceMethod_spec hinst
  obtain ⟨m8, methM', cM, hn8, hmethM', -, -, -, -, -, -, hsigM⟩ := Cond.codeWith_spec hcode
  cases Option.some.inj (hn8.symm.trans hnamed)
  cases hmethM.symm.trans hmethM'
  obtain ⟨c2, r2, m2, q1, q2, q3, q4, kP, hkP, hkPi⟩ := Cond.selects_spec hsel
  cases hcls.symm.trans q1
  cases (State.methodFound?_of_named hnamed hy).symm.trans q2
  cases hnamed.symm.trans q3
  have hselP : selectMethod e.platform s.vm cellB.cls mk = .method mk := by rw [Launch.admits_selectMethod X.admits]; exact q4
  obtain ⟨vm₁, X₁, hstep₁⟩ := X.invokevirtual hexec hown hlink hnamed hmethM hstM hkP hkPi hy (a := b) (cell := cellB) hcell
    (fun z h => by rw [h] at hobj; cases hobj) hselP hmethM habM hkP hkPi (g := g) hg (argsL := argsL) (rest := rest) (hlen _ hsigM) hstack hdg
  obtain ⟨v, B, X', hpost, hsteps⟩ := hK m meth c ⟨T.setVm vm₁, locs, cells, slots⟩ { g with stack := rest } (.invokevirtual index) mk (Value.ref b :: argsL).toArray X₁ hg hsize hdg hW (X₁.named hnamed) (hpre vm₁ X₁.warmed)
  exact ⟨v, vm₁, B, X₁.warmed, X', hpost, fun target h => hstep₁ _ fun acts => by rw [doInvoke_state]; exact hsteps.trans h⟩
abbrev vx_CVW (R : Room) (s : State) (args : Array Value) (own C : String) (index : Nat) (y : MethodName) (bytes : ByteArray) (maxL : Nat) (ret : Option FieldType) (hh : List (Nat × Nat × Nat × Nat)) (ws : List Cond) (rm : Room) (mc ms n : Nat) : Prop :=
  (rm.cells = mc ∧ rm.slots = ms ∧ rm.frames + 1 ≤ R.frames ∧ 8 + (maxL + 11) + rm.locals ≤ R.locals ∧ (∀ w ∈ ws, ∀ (a' : Array Value) (U : State), s.WarmedH U.vm → w.before a' U = true) ∧ Cond.codeWith y bytes maxL ret hh ∈ ws) ∧
  (Cond.codeWith y bytes maxL ret hh).before args s = true ∧ (Cond.initialized y.cls).before args s = true ∧ (y.cls ≠ "java/lang/invoke/MethodHandle" ∧ y.cls ≠ "java/lang/invoke/VarHandle") ∧
  (∀ sig, parseMethodDescriptor y.desc = some sig → n = sig.parameters.length) ∧ (Cond.methodLink own index y).before args s = true ∧ (Cond.instanceMethod y).before args s = true ∧ (Cond.selects C y y).before args s = true
theorem vx_cwVW {own C : String} {index maxL mc ms : Nat} {y : MethodName} {bytes : ByteArray} {ret : Option FieldType} {hh : List (Nat × Nat × Nat × Nat)} {Ts ws ws' : List Cond} {rm : Room} (n : Nat) (ht : ∀ w ∈ Ts, w.before args s = true) (hT : GoodIn Ts (wsV own index C y ws)) (hw : ws = Cond.codeWith y bytes maxL ret hh :: ws') (hrc : rm.cells = mc) (hrs : rm.slots = ms)
    (hd : y.cls = C ∧ y.cls ≠ "java/lang/invoke/MethodHandle" ∧ y.cls ≠ "java/lang/invoke/VarHandle" ∧ (parseMethodDescriptor y.desc).map (fun d => d.parameters.length) = some n) (hR : rm.frames + 1 ≤ R.frames ∧ 8 + (maxL + 11) + rm.locals ≤ R.locals) :
    vx_CVW R s args own C index y bytes maxL ret hh ws rm mc ms n := by
  obtain ⟨hC, hd⟩ := hd
  subst hC
  have ok : ∀ w ∈ wsV own index y.cls y ws, w.before args s = true := fun w h => ht w (hT w h).1
  have hG : GoodIn Ts ws := fun w h => hT w (by unfold wsV; exact List.mem_append_right _ h)
  have hc : Cond.codeWith y bytes maxL ret hh ∈ ws := by rw [hw]; exact List.mem_cons_self
  refine ⟨⟨hrc, hrs, hR.1, hR.2, pay_in ht hG, hc⟩, ht _ (hG _ hc).1, ok _ (by simp [wsV]), ⟨hd.1, hd.2.1⟩, fun sig h => ?_, ok _ (by simp [wsV]), ok _ (by simp [wsV]), ok _ (by simp [wsV])⟩
  have h2 := hd.2.2
  rw [h] at h2
  exact (Option.some.inj h2).symm
theorem vx_runVW {y : MethodName} {bytes cc : ByteArray} {maxL nL mc ms n index : Nat} {ret : Option FieldType} {hh : List (Nat × Nat × Nat × Nat)} {ws : List Cond} {rm : Room} {Pc : Array Value → State → Prop} {Qc : Array Value → State → Outcome → State → Prop} {free : Addr → Prop} {Ts : List Cond} {own C : String} {b : Addr} {As rest : List Value} {g : JFrame}
    (S : CallFix p m c cc nL s args Ts own) (hM : Met l y ws rm Pc Qc mc ms free) (cw : vx_CVW R s args own C index y bytes maxL ret hh ws rm mc ms n) (hp : PreV s H C b Pc As)
    (hg : g.method = m) (hn : As.length = n) (hsize : g.locals.size = nL) (hstack : g.stack = As.reverse ++ .ref b :: rest) (hW : 2 * g.monitorRoom + (rest.map fun v => v.category).sum ≤ 8) (hdg : decode cc g.pc = .ok (.invokevirtual index, 3)) (hf : cells + mc ≤ R.cells ∧ slots + ms ≤ R.slots) :
    va_Run p l e R s m args below meth c H locs cells slots mc ms g rest (Qc (Value.ref b :: As).toArray) free := by
  obtain ⟨⟨hrc, hrs, hfr, hlo, hws, hcw⟩, hcode, hini, hy, hlen, hl, hin, hse⟩ := cw
  have hK : Back l R p e below s args y 3 8 (PreOf R mc ms Pc) (PostOf Qc mc ms free) := va_backW (hh := hh) (bytes := bytes) (maxL := maxL) (ret := ret) hM hp.1 hrc hrs hfr hlo hws hcw (fun a' U hW => word_at hW (Or.inl (by first | rfl | simp [Cond.onTables, Cond.keeps, Cond.steady])) hini)
  obtain ⟨hx, hb, hml, ho, -⟩ := S
  obtain ⟨-, ⟨cellB, hcB, hoB, hclB⟩, hPc⟩ := hp
  intro T hT X
  obtain ⟨v, vm₁, ⟨U', l2, c2, s2⟩, hW₁, X', ⟨g', mk, t, L, e1, e2, hq, h1, hL, h2, h3⟩, st⟩ := vx_callVW X hx (C := C) (hh := hh) (bytes := bytes) (maxL := maxL) (ret := ret) ho hl hin hse hcode hy hK (by rw [hT]; exact hcB) hoB hclB hg (hsize.trans hml.symm) (argsL := As) (rest := rest) (fun sig h => hn.trans (hlen sig h)) hstack hW (by rw [hb]; exact hdg)
    (fun vm₁ hW₁ => ⟨hf.1, hf.2, hPc (T.setVm vm₁) hT hW₁⟩)
  dsimp only [Pt.U, Pt.locs, Pt.cells, Pt.slots] at X' e1 e2 h1 h2 h3 st
  subst h1; subst h2; subst h3
  exact ⟨v, (T.setVm vm₁).calling g' mk (Value.ref b :: As).toArray, t, U', L, hT, X', hL, e1, e2, hq, st⟩
section
variable {y : MethodName} {bytes cc : ByteArray} {maxL nL mc ms n index : Nat} {ret : Option FieldType} {ws : List Cond} {rm : Room} {Pc : Array Value → State → Prop} {Qc : Array Value → State → Outcome → State → Prop} {XC : String → State → State → Prop} {free : Addr → Prop} {Ts : List Cond} {own C : String} {b : Addr} {As rest : List Value} {g : JFrame}
theorem vx_runVX {hh : List (Nat × Nat × Nat × Nat)} (S : CallFix p m c cc nL s args Ts own) (hM : vx_Met l y ws rm Pc Qc XC mc ms free) (cw : vx_CVW R s args own C index y bytes maxL ret hh ws rm mc ms n) (hp : PreV s H C b Pc As)
    (hg : g.method = m) (hn : As.length = n) (hsize : g.locals.size = nL) (hstack : g.stack = As.reverse ++ .ref b :: rest) (hW : 2 * g.monitorRoom + (rest.map fun v => v.category).sum ≤ 8) (hdg : decode cc g.pc = .ok (.invokevirtual index, 3)) (hf : cells + mc ≤ R.cells ∧ slots + ms ≤ R.slots) :
    vx_Run p l e R s m args below meth c H locs cells slots mc ms g rest (Qc (Value.ref b :: As).toArray) XC free := by
  obtain ⟨⟨hrc, hrs, hfr, hlo, hws, hcw⟩, hcode, hini, hy, hlen, hl, hin, hse⟩ := cw
  have hK : vx_Back l R p e below s args y 3 8 (PreOf R mc ms Pc) (PostOf Qc mc ms free) (vx_Post XC mc ms free) := vx_backW (hh := hh) (bytes := bytes) (maxL := maxL) (ret := ret) hM hp.1 hrc hrs hfr hlo hws hcw (fun a' U hW => word_at hW (Or.inl (by first | rfl | simp [Cond.onTables, Cond.keeps, Cond.steady])) hini)
  obtain ⟨hx, hb, hml, ho, -⟩ := S
  obtain ⟨-, ⟨cellB, hcB, hoB, hclB⟩, hPc⟩ := hp
  intro T hT X
  rcases vx_callVX X hx (C := C) (hh := hh) (bytes := bytes) (maxL := maxL) (ret := ret) ho hl hin hse hcode hy hK (by rw [hT]; exact hcB) hoB hclB hg (hsize.trans hml.symm) (argsL := As) (rest := rest) (fun sig h => hn.trans (hlen sig h)) hstack hW (by rw [hb]; exact hdg)
    (fun vm₁ hW₁ => ⟨hf.1, hf.2, hPc (T.setVm vm₁) hT hW₁⟩) with ⟨v, vm₁, ⟨U', l2, c2, s2⟩, hW₁, X', ⟨g', mk, t, L, e1, e2, hq, h1, hL, h2, h3⟩, st⟩ | ⟨q, vm₁, ⟨U', l2, c2, s2⟩, hW₁, X', ⟨g', mk, t, L, E, ce, e1, e2, hq, hce, hcv, hcl, h1, hL, h2, h3⟩, st⟩
  · dsimp only [Pt.U, Pt.locs, Pt.cells, Pt.slots] at X' e1 e2 h1 h2 h3 st
    subst h1; subst h2; subst h3
    exact Or.inl ⟨v, (T.setVm vm₁).calling g' mk (Value.ref b :: As).toArray, t, U', L, hT, X', hL, e1, e2, hq, st⟩
  · dsimp only [Pt.U, Pt.locs, Pt.cells, Pt.slots] at X' e1 e2 h1 h2 h3 st hcl
    subst h1; subst h2; subst h3
    exact Or.inr ⟨q, (T.setVm vm₁).calling g' mk (Value.ref b :: As).toArray, t, U', L, E, ce, hT, X', hL, e1, e2, hq, hce, hcv, vx_cls hW₁ hcl, st⟩
theorem vx_runSX {hh : List (Nat × Nat × Nat × Nat)} (S : CallFix p m c cc nL s args Ts own) (hM : vx_Met l y ws rm Pc Qc XC mc ms free) (cw : vx_CSW R s args own index y bytes maxL ret hh ws rm mc ms n) (hp : PreS s H Pc As)
    (hg : g.method = m) (hn : As.length = n) (hsize : g.locals.size = nL) (hstack : g.stack = As.reverse ++ rest) (hW : 2 * g.monitorRoom + (rest.map fun v => v.category).sum ≤ 8) (hdg : decode cc g.pc = .ok (.invokestatic index, 3)) (hf : cells + mc ≤ R.cells ∧ slots + ms ≤ R.slots) :
    vx_Run p l e R s m args below meth c H locs cells slots mc ms g rest (Qc As.toArray) XC free := by
  obtain ⟨⟨hrc, hrs, hfr, hlo, hws, hcw⟩, hcode, hini, hy, hlen, hl, hstt⟩ := cw
  have hK : vx_Back l R p e below s args y 3 8 (PreOf R mc ms Pc) (PostOf Qc mc ms free) (vx_Post XC mc ms free) := vx_backW (hh := hh) (bytes := bytes) (maxL := maxL) (ret := ret) hM hp.1 hrc hrs hfr hlo hws hcw (fun a' U hW => word_at hW (Or.inl (by first | rfl | simp [Cond.onTables, Cond.keeps, Cond.steady])) hini)
  obtain ⟨hx, hb, hml, ho, -⟩ := S
  intro T hT X
  rcases vx_callSX X hx (hh := hh) (bytes := bytes) (maxL := maxL) (ret := ret) ho hl hstt hini hcode hy hK hg (hsize.trans hml.symm) (argsL := As) (rest := rest) (fun sig h => hn.trans (hlen sig h)) hstack hW (by rw [hb]; exact hdg)
    (fun vm₁ hW₁ => ⟨hf.1, hf.2, hp.2 (T.setVm vm₁) hT hW₁⟩) with ⟨v, vm₁, ⟨U', l2, c2, s2⟩, hW₁, X', ⟨g', mk, t, L, e1, e2, hq, h1, hL, h2, h3⟩, st⟩ | ⟨q, vm₁, ⟨U', l2, c2, s2⟩, hW₁, X', ⟨g', mk, t, L, E, ce, e1, e2, hq, hce, hcv, hcl, h1, hL, h2, h3⟩, st⟩
  · dsimp only [Pt.U, Pt.locs, Pt.cells, Pt.slots] at X' e1 e2 h1 h2 h3 st
    subst h1; subst h2; subst h3
    exact Or.inl ⟨v, (T.setVm vm₁).calling g' mk As.toArray, t, U', L, hT, X', hL, e1, e2, hq, st⟩
  · dsimp only [Pt.U, Pt.locs, Pt.cells, Pt.slots] at X' e1 e2 h1 h2 h3 st hcl
    subst h1; subst h2; subst h3
    exact Or.inr ⟨q, (T.setVm vm₁).calling g' mk As.toArray, t, U', L, E, ce, hT, X', hL, e1, e2, hq, hce, hcv, vx_cls hW₁ hcl, st⟩
end
end VXH
theorem vx_ofWH {l : Launch} {y : MethodName} {ws ws' : List Cond} {rm : Room} {Pc : Array Value → State → Prop} {Qc : Array Value → State → Outcome → State → Prop} {XC : String → State → State → Prop} {mc ms : Nat} {free : Addr → Prop} {cc : ByteArray} {maxL : Nat} {ret : Option FieldType} {hh : List (Nat × Nat × Nat × Nat)}
    (hy : plainName y.cls = true) (hw : ws = Cond.codeWith y cc maxL ret hh :: ws')
    (body : ∀ p e s m args below meth c s₁, BodyLoose p l y (headSpec ws rm) cc maxL ret e s m args below meth c s₁ → c.maxLocals = maxL → Pc args s →
      W p l e (headSpec ws rm).room s m args below meth c s.heap [] 0 0 (vx_MQ below Qc XC args s mc ms free) (entryFrame m args maxL)) : vx_Met l y ws rm Pc Qc XC mc ms free := by
  refine MetFree.of_bodyS (code := cc) (maxLocals := maxL) (ret := ret) hy ?_ ?_
  · intro args s m h hn
    obtain ⟨m9, meth, c, hn9, h1, h2, h3, h4, -, h5, h6, -⟩ := Cond.codeWith_spec (atoms_spec (ws := ws) h _ (by rw [hw]; exact List.mem_cons_self))
    cases hn.symm.trans hn9
    exact ⟨meth, c, h1, h2, h3, h4, h5, h6⟩
  · intro p e s m args below meth c s₁ B hml hP _
    have hh0 : s₁.heap = s.heap := by rw [B.state]; rfl
    obtain ⟨t, a1, o, b1, b2, b3⟩ := body p e s m args below meth c s₁ B hml hP s₁ hh0 (Stand.of_body B)
    exact ⟨t, o, a1, b1, b2, b3⟩
/-! ===== END ===== -/
end
section
def RX0 : String := "FireNet$Camera"
def TX0 : u_T := fun k => match k with
  | 0 => ("FireNet$Camera", "x", "I", true)
  | 1 => ("FireNet$Camera", "y", "I", true)
  | _ => ("FireNet$Camera", "wrong", "I", false)
def tyX0 : Nat → FieldType := fun k => match k with
  | 0 => .int
  | 1 => .int
  | _ => .int
abbrev wsX00 : List Cond := u_ws RX0 TX0 3
theorem nmX0 : ∀ a, a < 3 → ∀ b, b < 3 → a ≠ b → (TX0 a).2.1 ≠ (TX0 b).2.1 := by decide +kernel
theorem tyX0_ok : ∀ k, k < 3 → parseFieldDescriptor (TX0 k).2.2.1 = some (tyX0 k) := by decide +kernel
abbrev cX0_init : ByteArray := prog_2_method_1_code
def yX0_init : MethodName := ⟨RX0, "<init>", "(III)V"⟩
def RX1 : String := "FireNet$Cloud"
def TX1 : u_T := fun k => match k with
  | _ => ("", "", "", false)
def tyX1 : Nat → FieldType := fun k => match k with
  | _ => .int
abbrev wsX10 : List Cond := u_ws RX1 TX1 0
theorem nmX1 : ∀ a, a < 0 → ∀ b, b < 0 → a ≠ b → (TX1 a).2.1 ≠ (TX1 b).2.1 := by decide +kernel
theorem tyX1_ok : ∀ k, k < 0 → parseFieldDescriptor (TX1 k).2.2.1 = some (tyX1 k) := by decide +kernel
def RX2 : String := "FireNet$Crossing"
def TX2 : u_T := fun k => match k with
  | 0 => ("FireNet$Crossing", "x", "J", false)
  | _ => ("FireNet$Crossing", "y", "J", false)
def tyX2 : Nat → FieldType := fun k => match k with
  | 0 => .long
  | _ => .long
abbrev wsX20 : List Cond := u_ws RX2 TX2 2
theorem nmX2 : ∀ a, a < 2 → ∀ b, b < 2 → a ≠ b → (TX2 a).2.1 ≠ (TX2 b).2.1 := by decide +kernel
theorem tyX2_ok : ∀ k, k < 2 → parseFieldDescriptor (TX2 k).2.2.1 = some (tyX2 k) := by decide +kernel
abbrev cX2_init : ByteArray := prog_4_method_1_code
def yX2_init : MethodName := ⟨RX2, "<init>", "()V"⟩
abbrev cX2_isOfBegins : ByteArray := prog_4_method_2_code
def yX2_isOfBegins : MethodName := ⟨RX2, "isOfBegins", "(LFireNet$Sighting;LFireNet$Sighting;)Z"⟩
abbrev cX2_isOfEnds : ByteArray := prog_4_method_3_code
def yX2_isOfEnds : MethodName := ⟨RX2, "isOfEnds", "(LFireNet$Sighting;LFireNet$Sighting;)Z"⟩
abbrev cX2_isOf : ByteArray := prog_4_method_4_code
def yX2_isOf : MethodName := ⟨RX2, "isOf", "(LFireNet$Camera;IILFireNet$Camera;II)Z"⟩
def RX3 : String := "FireNet$Field"
def TX3 : u_T := fun k => match k with
  | 0 => ("FireNet$Field", "endX", "J", false)
  | 1 => ("FireNet$Field", "endY", "J", false)
  | 2 => ("FireNet$Field", "windX", "I", false)
  | _ => ("FireNet$Field", "windY", "I", false)
def tyX3 : Nat → FieldType := fun k => match k with
  | 0 => .long
  | 1 => .long
  | 2 => .int
  | _ => .int
abbrev wsX30 : List Cond := u_ws RX3 TX3 4
theorem nmX3 : ∀ a, a < 4 → ∀ b, b < 4 → a ≠ b → (TX3 a).2.1 ≠ (TX3 b).2.1 := by decide +kernel
theorem tyX3_ok : ∀ k, k < 4 → parseFieldDescriptor (TX3 k).2.2.1 = some (tyX3 k) := by decide +kernel
abbrev cX3_init : ByteArray := prog_5_method_1_code
def yX3_init : MethodName := ⟨RX3, "<init>", "()V"⟩
abbrev cX3_scatter : ByteArray := prog_5_method_2_code
def yX3_scatter : MethodName := ⟨RX3, "scatter", "(LFireNet$Fireball;II)V"⟩
abbrev cX3_pieceX : ByteArray := prog_5_method_3_code
def yX3_pieceX : MethodName := ⟨RX3, "pieceX", "(I)J"⟩
abbrev cX3_pieceY : ByteArray := prog_5_method_4_code
def yX3_pieceY : MethodName := ⟨RX3, "pieceY", "(I)J"⟩
abbrev cX3_weight : ByteArray := prog_5_method_5_code
def yX3_weight : MethodName := ⟨RX3, "weight", "(II)J"⟩
abbrev cX3_weightOfGround : ByteArray := prog_5_method_6_code
def yX3_weightOfGround : MethodName := ⟨RX3, "weightOfGround", "()J"⟩
abbrev cX3_cellsWithin : ByteArray := prog_5_method_7_code
def yX3_cellsWithin : MethodName := ⟨RX3, "cellsWithin", "(JI)J"⟩
def RX4 : String := "FireNet$Fireball"
def TX4 : u_T := fun k => match k with
  | 0 => ("FireNet$Fireball", "night", "I", false)
  | 1 => ("FireNet$Fireball", "sightings", "I", false)
  | 2 => ("FireNet$Fireball", "pairs", "I", false)
  | 3 => ("FireNet$Fireball", "lengths", "J", false)
  | 4 => ("FireNet$Fireball", "lightTimesLength", "J", false)
  | 5 => ("FireNet$Fireball", "greatestLight", "J", false)
  | 6 => ("FireNet$Fireball", "beginX", "J", false)
  | 7 => ("FireNet$Fireball", "beginY", "J", false)
  | 8 => ("FireNet$Fireball", "endX", "J", false)
  | 9 => ("FireNet$Fireball", "endY", "J", false)
  | 10 => ("FireNet$Fireball", "speed", "J", false)
  | 11 => ("FireNet$Fireball", "massByLight", "J", false)
  | _ => ("FireNet$Fireball", "massBySpeed", "J", false)
def tyX4 : Nat → FieldType := fun k => match k with
  | 0 => .int
  | 1 => .int
  | 2 => .int
  | 3 => .long
  | 4 => .long
  | 5 => .long
  | 6 => .long
  | 7 => .long
  | 8 => .long
  | 9 => .long
  | 10 => .long
  | 11 => .long
  | _ => .long
abbrev wsX40 : List Cond := u_ws RX4 TX4 13
theorem nmX4 : ∀ a, a < 13 → ∀ b, b < 13 → a ≠ b → (TX4 a).2.1 ≠ (TX4 b).2.1 := by decide +kernel
theorem tyX4_ok : ∀ k, k < 13 → parseFieldDescriptor (TX4 k).2.2.1 = some (tyX4 k) := by decide +kernel
abbrev cX4_init : ByteArray := prog_6_method_1_code
def yX4_init : MethodName := ⟨RX4, "<init>", "()V"⟩
abbrev cX4_exists : ByteArray := prog_6_method_2_code
def yX4_exists : MethodName := ⟨RX4, "exists", "()Z"⟩
abbrev cX4_clear : ByteArray := prog_6_method_3_code
def yX4_clear : MethodName := ⟨RX4, "clear", "()V"⟩
abbrev cX4_add : ByteArray := prog_6_method_4_code
def yX4_add : MethodName := ⟨RX4, "add", "(LFireNet$Sighting;)V"⟩
abbrev cX4_addPair : ByteArray := prog_6_method_5_code
def yX4_addPair : MethodName := ⟨RX4, "addPair", "(LFireNet$Crossing;LFireNet$Crossing;)V"⟩
abbrev cX4_settle : ByteArray := prog_6_method_6_code
def yX4_settle : MethodName := ⟨RX4, "settle", "()V"⟩
abbrev cX4_flightX : ByteArray := prog_6_method_7_code
def yX4_flightX : MethodName := ⟨RX4, "flightX", "()J"⟩
abbrev cX4_flightY : ByteArray := prog_6_method_8_code
def yX4_flightY : MethodName := ⟨RX4, "flightY", "()J"⟩
abbrev cX4_number : ByteArray := prog_6_method_9_code
def yX4_number : MethodName := ⟨RX4, "number", "(I)J"⟩
def RX5 : String := "FireNet$Rule"
def TX5 : u_T := fun k => match k with
  | _ => ("", "", "", false)
def tyX5 : Nat → FieldType := fun k => match k with
  | _ => .int
abbrev wsX50 : List Cond := u_ws RX5 TX5 0
theorem nmX5 : ∀ a, a < 0 → ∀ b, b < 0 → a ≠ b → (TX5 a).2.1 ≠ (TX5 b).2.1 := by decide +kernel
theorem tyX5_ok : ∀ k, k < 0 → parseFieldDescriptor (TX5 k).2.2.1 = some (tyX5 k) := by decide +kernel
def RX6 : String := "FireNet$Sighting"
def TX6 : u_T := fun k => match k with
  | 0 => ("FireNet$Sighting", "camera", "LFireNet$Camera;", true)
  | 1 => ("FireNet$Sighting", "night", "I", true)
  | 2 => ("FireNet$Sighting", "second", "I", true)
  | 3 => ("FireNet$Sighting", "length", "I", true)
  | 4 => ("FireNet$Sighting", "light", "I", true)
  | 5 => ("FireNet$Sighting", "beginX", "I", false)
  | 6 => ("FireNet$Sighting", "beginY", "I", false)
  | 7 => ("FireNet$Sighting", "endX", "I", false)
  | 8 => ("FireNet$Sighting", "endY", "I", false)
  | 9 => ("FireNet$Sighting", "joined", "J", false)
  | 10 => ("FireNet$Sighting", "fireball", "I", false)
  | _ => ("FireNet$Sighting", "lowest", "I", false)
def tyX6 : Nat → FieldType := fun k => match k with
  | 0 => .object "FireNet$Camera"
  | 1 => .int
  | 2 => .int
  | 3 => .int
  | 4 => .int
  | 5 => .int
  | 6 => .int
  | 7 => .int
  | 8 => .int
  | 9 => .long
  | 10 => .int
  | _ => .int
abbrev wsX60 : List Cond := u_ws RX6 TX6 12
theorem nmX6 : ∀ a, a < 12 → ∀ b, b < 12 → a ≠ b → (TX6 a).2.1 ≠ (TX6 b).2.1 := by decide +kernel
theorem tyX6_ok : ∀ k, k < 12 → parseFieldDescriptor (TX6 k).2.2.1 = some (tyX6 k) := by decide +kernel
abbrev cX6_init : ByteArray := prog_8_method_1_code
def yX6_init : MethodName := ⟨RX6, "<init>", "(LFireNet$Camera;IIII)V"⟩
abbrev cX6_counts : ByteArray := prog_8_method_2_code
def yX6_counts : MethodName := ⟨RX6, "counts", "()Z"⟩
abbrev cX6_rightSecond : ByteArray := prog_8_method_3_code
def yX6_rightSecond : MethodName := ⟨RX6, "rightSecond", "()I"⟩
abbrev cX6_mayJoin : ByteArray := prog_8_method_4_code
def yX6_mayJoin : MethodName := ⟨RX6, "mayJoin", "(LFireNet$Sighting;)Z"⟩
def RX7 : String := "FireNet$Stone"
def TX7 : u_T := fun k => match k with
  | 0 => ("FireNet$Stone", "number", "I", true)
  | 1 => ("FireNet$Stone", "x", "I", true)
  | 2 => ("FireNet$Stone", "y", "I", true)
  | 3 => ("FireNet$Stone", "night", "I", true)
  | 4 => ("FireNet$Stone", "origin", "LFireNet$Stone;", true)
  | 5 => ("FireNet$Stone", "grams", "I", false)
  | 6 => ("FireNet$Stone", "lost", "I", false)
  | 7 => ("FireNet$Stone", "owner", "I", false)
  | 8 => ("FireNet$Stone", "where", "I", false)
  | 9 => ("FireNet$Stone", "laboratory", "I", false)
  | 10 => ("FireNet$Stone", "iron", "I", false)
  | 11 => ("FireNet$Stone", "texture", "I", false)
  | 12 => ("FireNet$Stone", "shock", "I", false)
  | 13 => ("FireNet$Stone", "place", "I", false)
  | 14 => ("FireNet$Stone", "numberOfName", "I", false)
  | _ => ("FireNet$Stone", "doubtful", "Z", false)
def tyX7 : Nat → FieldType := fun k => match k with
  | 0 => .int
  | 1 => .int
  | 2 => .int
  | 3 => .int
  | 4 => .object "FireNet$Stone"
  | 5 => .int
  | 6 => .int
  | 7 => .int
  | 8 => .int
  | 9 => .int
  | 10 => .int
  | 11 => .int
  | 12 => .int
  | 13 => .int
  | 14 => .int
  | _ => .boolean
abbrev wsX70 : List Cond := u_ws RX7 TX7 16
theorem nmX7 : ∀ a, a < 16 → ∀ b, b < 16 → a ≠ b → (TX7 a).2.1 ≠ (TX7 b).2.1 := by decide +kernel
theorem tyX7_ok : ∀ k, k < 16 → parseFieldDescriptor (TX7 k).2.2.1 = some (tyX7 k) := by decide +kernel
abbrev cX7_init : ByteArray := prog_9_method_1_code
def yX7_init : MethodName := ⟨RX7, "<init>", "(IIIIIILFireNet$Stone;)V"⟩
def RX8 : String := "FireNet$Walk"
def TX8 : u_T := fun k => match k with
  | 0 => ("FireNet$Walk", "fireball", "I", true)
  | 1 => ("FireNet$Walk", "x", "I", true)
  | 2 => ("FireNet$Walk", "y", "I", true)
  | 3 => ("FireNet$Walk", "skill", "I", true)
  | _ => ("FireNet$Walk", "first", "Z", true)
def tyX8 : Nat → FieldType := fun k => match k with
  | 0 => .int
  | 1 => .int
  | 2 => .int
  | 3 => .int
  | _ => .boolean
abbrev wsX80 : List Cond := u_ws RX8 TX8 5
theorem nmX8 : ∀ a, a < 5 → ∀ b, b < 5 → a ≠ b → (TX8 a).2.1 ≠ (TX8 b).2.1 := by decide +kernel
theorem tyX8_ok : ∀ k, k < 5 → parseFieldDescriptor (TX8 k).2.2.1 = some (tyX8 k) := by decide +kernel
abbrev cX8_init : ByteArray := prog_10_method_1_code
def yX8_init : MethodName := ⟨RX8, "<init>", "(IIIIZ)V"⟩
abbrev cX8_isThrough : ByteArray := prog_10_method_2_code
def yX8_isThrough : MethodName := ⟨RX8, "isThrough", "(III)Z"⟩
def RX9 : String := "FireNet$Wind"
def TX9 : u_T := fun k => match k with
  | 0 => ("FireNet$Wind", "night", "I", true)
  | 1 => ("FireNet$Wind", "x", "I", false)
  | _ => ("FireNet$Wind", "y", "I", false)
def tyX9 : Nat → FieldType := fun k => match k with
  | 0 => .int
  | 1 => .int
  | _ => .int
abbrev wsX90 : List Cond := u_ws RX9 TX9 3
theorem nmX9 : ∀ a, a < 3 → ∀ b, b < 3 → a ≠ b → (TX9 a).2.1 ≠ (TX9 b).2.1 := by decide +kernel
theorem tyX9_ok : ∀ k, k < 3 → parseFieldDescriptor (TX9 k).2.2.1 = some (tyX9 k) := by decide +kernel
abbrev cX9_init : ByteArray := prog_11_method_1_code
def yX9_init : MethodName := ⟨RX9, "<init>", "(I)V"⟩
def RX10 : String := "FireNet"
def TX10 : u_T := fun k => match k with
  | 0 => ("FireNet", "cameras", "Ljava/util/List;", true)
  | 1 => ("FireNet", "clouds", "Ljava/util/List;", true)
  | 2 => ("FireNet", "sightings", "Ljava/util/List;", true)
  | 3 => ("FireNet", "begun", "LFireNet$Sighting;", false)
  | 4 => ("FireNet", "rows", "Ljava/util/List;", true)
  | 5 => ("FireNet", "begins", "LFireNet$Crossing;", true)
  | 6 => ("FireNet", "ends", "LFireNet$Crossing;", true)
  | 7 => ("FireNet", "winds", "Ljava/util/List;", true)
  | 8 => ("FireNet", "walks", "Ljava/util/List;", true)
  | 9 => ("FireNet", "field", "LFireNet$Field;", true)
  | 10 => ("FireNet", "stones", "Ljava/util/List;", true)
  | 11 => ("FireNet", "rules", "[LFireNet$Rule;", true)
  | 12 => ("FireNet", "laws", "[I", true)
  | _ => ("FireNet", "namesOfPlaces", "[I", true)
def tyX10 : Nat → FieldType := fun k => match k with
  | 0 => .object "java/util/List"
  | 1 => .object "java/util/List"
  | 2 => .object "java/util/List"
  | 3 => .object "FireNet$Sighting"
  | 4 => .object "java/util/List"
  | 5 => .object "FireNet$Crossing"
  | 6 => .object "FireNet$Crossing"
  | 7 => .object "java/util/List"
  | 8 => .object "java/util/List"
  | 9 => .object "FireNet$Field"
  | 10 => .object "java/util/List"
  | 11 => .array (.object "FireNet$Rule")
  | 12 => .array .int
  | _ => .array .int
abbrev wsX100 : List Cond := u_ws RX10 TX10 14
theorem nmX10 : ∀ a, a < 14 → ∀ b, b < 14 → a ≠ b → (TX10 a).2.1 ≠ (TX10 b).2.1 := by decide +kernel
theorem tyX10_ok : ∀ k, k < 14 → parseFieldDescriptor (TX10 k).2.2.1 = some (tyX10 k) := by decide +kernel
abbrev cX10_init : ByteArray := prog_1_method_1_code
def yX10_init : MethodName := ⟨RX10, "<init>", "()V"⟩
abbrev cX10_camera : ByteArray := prog_1_method_2_code
def yX10_camera : MethodName := ⟨RX10, "camera", "(III)I"⟩
abbrev cX10_clock : ByteArray := prog_1_method_3_code
def yX10_clock : MethodName := ⟨RX10, "clock", "(II)I"⟩
abbrev cX10_begin : ByteArray := prog_1_method_5_code
def yX10_begin : MethodName := ⟨RX10, "begin", "(IIIII)V"⟩
abbrev cX10_end : ByteArray := prog_1_method_6_code
def yX10_end : MethodName := ⟨RX10, "end", "(IIII)I"⟩
abbrev cX10_fireball : ByteArray := prog_1_method_7_code
def yX10_fireball : MethodName := ⟨RX10, "fireball", "(I)I"⟩
abbrev cX10_fireballAnew : ByteArray := prog_1_method_8_code
def yX10_fireballAnew : MethodName := ⟨RX10, "fireballAnew", "(I)I"⟩
abbrev cX10_fireballs : ByteArray := prog_1_method_9_code
def yX10_fireballs : MethodName := ⟨RX10, "fireballs", "(I)I"⟩
abbrev cX10_told : ByteArray := prog_1_method_10_code
def yX10_told : MethodName := ⟨RX10, "told", "(II)J"⟩
abbrev cX10_wind : ByteArray := prog_1_method_13_code
def yX10_wind : MethodName := ⟨RX10, "wind", "(III)V"⟩
abbrev cX10_walk : ByteArray := prog_1_method_14_code
def yX10_walk : MethodName := ⟨RX10, "walk", "(IIII)J"⟩
abbrev cX10_chance : ByteArray := prog_1_method_15_code
def yX10_chance : MethodName := ⟨RX10, "chance", "(III)J"⟩
abbrev cX10_find : ByteArray := prog_1_method_16_code
def yX10_find : MethodName := ⟨RX10, "find", "(IIIII)I"⟩
abbrev cX10_fall : ByteArray := prog_1_method_17_code
def yX10_fall : MethodName := ⟨RX10, "fall", "(I)I"⟩
abbrev cX10_requireRange : ByteArray := prog_1_method_31_code
def yX10_requireRange : MethodName := ⟨RX10, "requireRange", "(III)V"⟩
abbrev cX10_requireCell : ByteArray := prog_1_method_32_code
def yX10_requireCell : MethodName := ⟨RX10, "requireCell", "(II)V"⟩
abbrev cX10_requireNight : ByteArray := prog_1_method_33_code
def yX10_requireNight : MethodName := ⟨RX10, "requireNight", "(I)V"⟩
abbrev cX10_requireDirection : ByteArray := prog_1_method_34_code
def yX10_requireDirection : MethodName := ⟨RX10, "requireDirection", "(II)V"⟩
abbrev cX10_existingCamera : ByteArray := prog_1_method_35_code
def yX10_existingCamera : MethodName := ⟨RX10, "existingCamera", "(I)LFireNet$Camera;"⟩
abbrev cX10_existingSighting : ByteArray := prog_1_method_36_code
def yX10_existingSighting : MethodName := ⟨RX10, "existingSighting", "(I)LFireNet$Sighting;"⟩
abbrev cX10_existingFireball : ByteArray := prog_1_method_37_code
def yX10_existingFireball : MethodName := ⟨RX10, "existingFireball", "(I)LFireNet$Fireball;"⟩
abbrev cX10_existingStone : ByteArray := prog_1_method_38_code
def yX10_existingStone : MethodName := ⟨RX10, "existingStone", "(I)LFireNet$Stone;"⟩
abbrev cX10_cloudyNights : ByteArray := prog_1_method_39_code
def yX10_cloudyNights : MethodName := ⟨RX10, "cloudyNights", "(LFireNet$Camera;II)I"⟩
abbrev cX10_isCloudy : ByteArray := prog_1_method_40_code
def yX10_isCloudy : MethodName := ⟨RX10, "isCloudy", "(LFireNet$Camera;I)Z"⟩
abbrev cX10_gatherFireballs : ByteArray := prog_1_method_42_code
def yX10_gatherFireballs : MethodName := ⟨RX10, "gatherFireballs", "()V"⟩
abbrev cX10_joinSightings : ByteArray := prog_1_method_43_code
def yX10_joinSightings : MethodName := ⟨RX10, "joinSightings", "()V"⟩
abbrev cX10_doJoin : ByteArray := prog_1_method_44_code
def yX10_doJoin : MethodName := ⟨RX10, "doJoin", "(LFireNet$Sighting;LFireNet$Sighting;)Z"⟩
abbrev cX10_gatherInto : ByteArray := prog_1_method_45_code
def yX10_gatherInto : MethodName := ⟨RX10, "gatherInto", "(LFireNet$Fireball;I)V"⟩
abbrev cX10_addPlaces : ByteArray := prog_1_method_46_code
def yX10_addPlaces : MethodName := ⟨RX10, "addPlaces", "(LFireNet$Fireball;LFireNet$Sighting;I)V"⟩
abbrev cX10_groupOf : ByteArray := prog_1_method_47_code
def yX10_groupOf : MethodName := ⟨RX10, "groupOf", "(I)J"⟩
abbrev cX10_holds : ByteArray := prog_1_method_48_code
def yX10_holds : MethodName := ⟨RX10, "holds", "(JI)Z"⟩
abbrev cX10_spreadLowest : ByteArray := prog_1_method_49_code
def yX10_spreadLowest : MethodName := ⟨RX10, "spreadLowest", "()Z"⟩
abbrev cX10_countFireballs : ByteArray := prog_1_method_50_code
def yX10_countFireballs : MethodName := ⟨RX10, "countFireballs", "(III)I"⟩
abbrev cX10_windOf : ByteArray := prog_1_method_51_code
def yX10_windOf : MethodName := ⟨RX10, "windOf", "(I)LFireNet$Wind;"⟩
abbrev cX10_wasWalked : ByteArray := prog_1_method_52_code
def yX10_wasWalked : MethodName := ⟨RX10, "wasWalked", "(III)Z"⟩
abbrev cX10_chanceIn : ByteArray := prog_1_method_53_code
def yX10_chanceIn : MethodName := ⟨RX10, "chanceIn", "(LFireNet$Fireball;III)J"⟩
abbrev cX10_weightLeft : ByteArray := prog_1_method_54_code
def yX10_weightLeft : MethodName := ⟨RX10, "weightLeft", "(JIII)J"⟩
abbrev cX10_weightOfGround : ByteArray := prog_1_method_55_code
def yX10_weightOfGround : MethodName := ⟨RX10, "weightOfGround", "(I)J"⟩
abbrev cX10_fallOf : ByteArray := prog_1_method_56_code
def yX10_fallOf : MethodName := ⟨RX10, "fallOf", "(LFireNet$Stone;)I"⟩
abbrev cX10_landOf : ByteArray := prog_1_method_59_code
def yX10_landOf : MethodName := ⟨RX10, "landOf", "(II)I"⟩
abbrev cX10_lawIn : ByteArray := prog_1_method_60_code
def yX10_lawIn : MethodName := ⟨RX10, "lawIn", "(I)I"⟩
abbrev cX10_divided : ByteArray := prog_1_method_62_code
def yX10_divided : MethodName := ⟨RX10, "divided", "(JJ)J"⟩
abbrev cX10_rootOf : ByteArray := prog_1_method_63_code
def yX10_rootOf : MethodName := ⟨RX10, "rootOf", "(J)J"⟩
def RX11 : String := "FireNetModel"
def TX11 : u_T := fun k => match k with
  | _ => ("", "", "", false)
def tyX11 : Nat → FieldType := fun k => match k with
  | _ => .int
abbrev wsX110 : List Cond := u_ws RX11 TX11 0
theorem nmX11 : ∀ a, a < 0 → ∀ b, b < 0 → a ≠ b → (TX11 a).2.1 ≠ (TX11 b).2.1 := by decide +kernel
theorem tyX11_ok : ∀ k, k < 0 → parseFieldDescriptor (TX11 k).2.2.1 = some (tyX11 k) := by decide +kernel
def RJx145de : String := "java/io/Serializable"
def TJx145de : u_T := fun k => match k with
  | _ => ("", "", "", false)
def tyJx145de : Nat → FieldType := fun k => match k with
  | _ => .int
abbrev wsJx145de0 : List Cond := u_ws RJx145de TJx145de 0
theorem nmJx145de : ∀ a, a < 0 → ∀ b, b < 0 → a ≠ b → (TJx145de a).2.1 ≠ (TJx145de b).2.1 := by decide +kernel
theorem tyJx145de_ok : ∀ k, k < 0 → parseFieldDescriptor (TJx145de k).2.2.1 = some (tyJx145de k) := by decide +kernel
def RJx8e188 : String := "java/lang/Cloneable"
def TJx8e188 : u_T := fun k => match k with
  | _ => ("", "", "", false)
def tyJx8e188 : Nat → FieldType := fun k => match k with
  | _ => .int
abbrev wsJx8e1880 : List Cond := u_ws RJx8e188 TJx8e188 0
theorem nmJx8e188 : ∀ a, a < 0 → ∀ b, b < 0 → a ≠ b → (TJx8e188 a).2.1 ≠ (TJx8e188 b).2.1 := by decide +kernel
theorem tyJx8e188_ok : ∀ k, k < 0 → parseFieldDescriptor (TJx8e188 k).2.2.1 = some (tyJx8e188 k) := by decide +kernel
def RJxab1ab : String := "java/lang/Iterable"
def TJxab1ab : u_T := fun k => match k with
  | _ => ("", "", "", false)
def tyJxab1ab : Nat → FieldType := fun k => match k with
  | _ => .int
abbrev wsJxab1ab0 : List Cond := u_ws RJxab1ab TJxab1ab 0
theorem nmJxab1ab : ∀ a, a < 0 → ∀ b, b < 0 → a ≠ b → (TJxab1ab a).2.1 ≠ (TJxab1ab b).2.1 := by decide +kernel
theorem tyJxab1ab_ok : ∀ k, k < 0 → parseFieldDescriptor (TJxab1ab k).2.2.1 = some (tyJxab1ab k) := by decide +kernel
def RJ9 : String := "java/lang/Math"
def TJ9 : u_T := fun k => match k with
  | _ => ("", "", "", false)
def tyJ9 : Nat → FieldType := fun k => match k with
  | _ => .int
abbrev wsJ90 : List Cond := u_ws RJ9 TJ9 0
theorem nmJ9 : ∀ a, a < 0 → ∀ b, b < 0 → a ≠ b → (TJ9 a).2.1 ≠ (TJ9 b).2.1 := by decide +kernel
theorem tyJ9_ok : ∀ k, k < 0 → parseFieldDescriptor (TJ9 k).2.2.1 = some (tyJ9 k) := by decide +kernel
abbrev cJ9_floorDiv_f86c9 : ByteArray := prog_21_method_49_code
def yJ9_floorDiv_f86c9 : MethodName := ⟨RJ9, "floorDiv", "(JJ)J"⟩
abbrev cJ9_abs_0f7a4 : ByteArray := prog_21_method_59_code
def yJ9_abs_0f7a4 : MethodName := ⟨RJ9, "abs", "(I)I"⟩
abbrev cJ9_abs_067f4 : ByteArray := prog_21_method_61_code
def yJ9_abs_067f4 : MethodName := ⟨RJ9, "abs", "(J)J"⟩
abbrev cJ9_max_7cf53 : ByteArray := prog_21_method_65_code
def yJ9_max_7cf53 : MethodName := ⟨RJ9, "max", "(II)I"⟩
abbrev cJ9_max_f86c9 : ByteArray := prog_21_method_66_code
def yJ9_max_f86c9 : MethodName := ⟨RJ9, "max", "(JJ)J"⟩
abbrev cJ9_min_7cf53 : ByteArray := prog_21_method_69_code
def yJ9_min_7cf53 : MethodName := ⟨RJ9, "min", "(II)I"⟩
abbrev cJ9_min_f86c9 : ByteArray := prog_21_method_70_code
def yJ9_min_f86c9 : MethodName := ⟨RJ9, "min", "(JJ)J"⟩
def RJ0 : String := "java/lang/String"
def TJ0 : u_T := fun k => match k with
  | _ => ("", "", "", false)
def tyJ0 : Nat → FieldType := fun k => match k with
  | _ => .int
abbrev wsJ00 : List Cond := u_ws RJ0 TJ0 0
theorem nmJ0 : ∀ a, a < 0 → ∀ b, b < 0 → a ≠ b → (TJ0 a).2.1 ≠ (TJ0 b).2.1 := by decide +kernel
theorem tyJ0_ok : ∀ k, k < 0 → parseFieldDescriptor (TJ0 k).2.2.1 = some (tyJ0 k) := by decide +kernel
def RJ10 : String := "java/lang/System"
def TJ10 : u_T := fun k => match k with
  | _ => ("", "", "", false)
def tyJ10 : Nat → FieldType := fun k => match k with
  | _ => .int
abbrev wsJ100 : List Cond := u_ws RJ10 TJ10 0
theorem nmJ10 : ∀ a, a < 0 → ∀ b, b < 0 → a ≠ b → (TJ10 a).2.1 ≠ (TJ10 b).2.1 := by decide +kernel
theorem tyJ10_ok : ∀ k, k < 0 → parseFieldDescriptor (TJ10 k).2.2.1 = some (tyJ10 k) := by decide +kernel
def RJxa1e45 : String := "java/util/AbstractCollection"
def TJxa1e45 : u_T := fun k => match k with
  | _ => ("", "", "", false)
def tyJxa1e45 : Nat → FieldType := fun k => match k with
  | _ => .int
abbrev wsJxa1e450 : List Cond := u_ws RJxa1e45 TJxa1e45 0
theorem nmJxa1e45 : ∀ a, a < 0 → ∀ b, b < 0 → a ≠ b → (TJxa1e45 a).2.1 ≠ (TJxa1e45 b).2.1 := by decide +kernel
theorem tyJxa1e45_ok : ∀ k, k < 0 → parseFieldDescriptor (TJxa1e45 k).2.2.1 = some (tyJxa1e45 k) := by decide +kernel
abbrev cJxa1e45_init_da8c8 : ByteArray := prog_26_method_1_code
def yJxa1e45_init_da8c8 : MethodName := ⟨RJxa1e45, "<init>", "()V"⟩
def RJxc12de : String := "java/util/AbstractList"
def TJxc12de : u_T := fun k => match k with
  | _ => ("", "", "", false)
def tyJxc12de : Nat → FieldType := fun k => match k with
  | _ => .int
abbrev wsJxc12de0 : List Cond := u_ws RJxc12de TJxc12de 0
theorem nmJxc12de : ∀ a, a < 0 → ∀ b, b < 0 → a ≠ b → (TJxc12de a).2.1 ≠ (TJxc12de b).2.1 := by decide +kernel
theorem tyJxc12de_ok : ∀ k, k < 0 → parseFieldDescriptor (TJxc12de k).2.2.1 = some (tyJxc12de k) := by decide +kernel
abbrev cJxc12de_init_da8c8 : ByteArray := prog_27_method_1_code
def yJxc12de_init_da8c8 : MethodName := ⟨RJxc12de, "<init>", "()V"⟩
def RJx4a65c : String := "java/util/ArrayList"
def TJx4a65c : u_T := fun k => match k with
  | 0 => ("java/util/AbstractList", "modCount", "I", false)
  | 1 => ("java/util/ArrayList", "elementData", "[Ljava/lang/Object;", false)
  | _ => ("java/util/ArrayList", "size", "I", false)
def tyJx4a65c : Nat → FieldType := fun k => match k with
  | 0 => .int
  | 1 => .array (.object "java/lang/Object")
  | _ => .int
abbrev wsJx4a65c0 : List Cond := u_ws RJx4a65c TJx4a65c 3
theorem nmJx4a65c : ∀ a, a < 3 → ∀ b, b < 3 → a ≠ b → (TJx4a65c a).2.1 ≠ (TJx4a65c b).2.1 := by decide +kernel
theorem tyJx4a65c_ok : ∀ k, k < 3 → parseFieldDescriptor (TJx4a65c k).2.2.1 = some (tyJx4a65c k) := by decide +kernel
abbrev cJx4a65c_init_da8c8 : ByteArray := prog_28_method_2_code
def yJx4a65c_init_da8c8 : MethodName := ⟨RJx4a65c, "<init>", "()V"⟩
abbrev cJx4a65c_grow_92f84 : ByteArray := prog_28_method_6_code
def yJx4a65c_grow_92f84 : MethodName := ⟨RJx4a65c, "grow", "(I)[Ljava/lang/Object;"⟩
abbrev cJx4a65c_grow_d5877 : ByteArray := prog_28_method_7_code
def yJx4a65c_grow_d5877 : MethodName := ⟨RJx4a65c, "grow", "()[Ljava/lang/Object;"⟩
abbrev cJx4a65c_size_8abf5 : ByteArray := prog_28_method_8_code
def yJx4a65c_size_8abf5 : MethodName := ⟨RJx4a65c, "size", "()I"⟩
abbrev cJx4a65c_elementData_915e3 : ByteArray := prog_28_method_18_code
def yJx4a65c_elementData_915e3 : MethodName := ⟨RJx4a65c, "elementData", "(I)Ljava/lang/Object;"⟩
abbrev cJx4a65c_get_915e3 : ByteArray := prog_28_method_20_code
def yJx4a65c_get_915e3 : MethodName := ⟨RJx4a65c, "get", "(I)Ljava/lang/Object;"⟩
abbrev cJx4a65c_add_72be8 : ByteArray := prog_28_method_24_code
def yJx4a65c_add_72be8 : MethodName := ⟨RJx4a65c, "add", "(Ljava/lang/Object;[Ljava/lang/Object;I)V"⟩
abbrev cJx4a65c_add_9ea2d : ByteArray := prog_28_method_25_code
def yJx4a65c_add_9ea2d : MethodName := ⟨RJx4a65c, "add", "(Ljava/lang/Object;)Z"⟩
def RJ7 : String := "java/util/Arrays"
def TJ7 : u_T := fun k => match k with
  | _ => ("", "", "", false)
def tyJ7 : Nat → FieldType := fun k => match k with
  | _ => .int
abbrev wsJ70 : List Cond := u_ws RJ7 TJ7 0
theorem nmJ7 : ∀ a, a < 0 → ∀ b, b < 0 → a ≠ b → (TJ7 a).2.1 ≠ (TJ7 b).2.1 := by decide +kernel
theorem tyJ7_ok : ∀ k, k < 0 → parseFieldDescriptor (TJ7 k).2.2.1 = some (tyJ7 k) := by decide +kernel
abbrev cJ7_copyOf_1904c : ByteArray := prog_29_method_119_code
def yJ7_copyOf_1904c : MethodName := ⟨RJ7, "copyOf", "([Ljava/lang/Object;I)[Ljava/lang/Object;"⟩
abbrev cJ7_copyOf_6403c : ByteArray := prog_29_method_120_code
def yJ7_copyOf_6403c : MethodName := ⟨RJ7, "copyOf", "([Ljava/lang/Object;ILjava/lang/Class;)[Ljava/lang/Object;"⟩
def RJx5ef63 : String := "java/util/Collection"
def TJx5ef63 : u_T := fun k => match k with
  | _ => ("", "", "", false)
def tyJx5ef63 : Nat → FieldType := fun k => match k with
  | _ => .int
abbrev wsJx5ef630 : List Cond := u_ws RJx5ef63 TJx5ef63 0
theorem nmJx5ef63 : ∀ a, a < 0 → ∀ b, b < 0 → a ≠ b → (TJx5ef63 a).2.1 ≠ (TJx5ef63 b).2.1 := by decide +kernel
theorem tyJx5ef63_ok : ∀ k, k < 0 → parseFieldDescriptor (TJx5ef63 k).2.2.1 = some (tyJx5ef63 k) := by decide +kernel
def RJxbd725 : String := "java/util/List"
def TJxbd725 : u_T := fun k => match k with
  | _ => ("", "", "", false)
def tyJxbd725 : Nat → FieldType := fun k => match k with
  | _ => .int
abbrev wsJxbd7250 : List Cond := u_ws RJxbd725 TJxbd725 0
theorem nmJxbd725 : ∀ a, a < 0 → ∀ b, b < 0 → a ≠ b → (TJxbd725 a).2.1 ≠ (TJxbd725 b).2.1 := by decide +kernel
theorem tyJxbd725_ok : ∀ k, k < 0 → parseFieldDescriptor (TJxbd725 k).2.2.1 = some (tyJxbd725 k) := by decide +kernel
def RJ15 : String := "java/util/Objects"
def TJ15 : u_T := fun k => match k with
  | _ => ("", "", "", false)
def tyJ15 : Nat → FieldType := fun k => match k with
  | _ => .int
abbrev wsJ150 : List Cond := u_ws RJ15 TJ15 0
theorem nmJ15 : ∀ a, a < 0 → ∀ b, b < 0 → a ≠ b → (TJ15 a).2.1 ≠ (TJ15 b).2.1 := by decide +kernel
theorem tyJ15_ok : ∀ k, k < 0 → parseFieldDescriptor (TJ15 k).2.2.1 = some (tyJ15 k) := by decide +kernel
abbrev cJ15_checkIndex_7cf53 : ByteArray := prog_32_method_17_code
def yJ15_checkIndex_7cf53 : MethodName := ⟨RJ15, "checkIndex", "(II)I"⟩
def RJxf0a74 : String := "java/util/RandomAccess"
def TJxf0a74 : u_T := fun k => match k with
  | _ => ("", "", "", false)
def tyJxf0a74 : Nat → FieldType := fun k => match k with
  | _ => .int
abbrev wsJxf0a740 : List Cond := u_ws RJxf0a74 TJxf0a74 0
theorem nmJxf0a74 : ∀ a, a < 0 → ∀ b, b < 0 → a ≠ b → (TJxf0a74 a).2.1 ≠ (TJxf0a74 b).2.1 := by decide +kernel
theorem tyJxf0a74_ok : ∀ k, k < 0 → parseFieldDescriptor (TJxf0a74 k).2.2.1 = some (tyJxf0a74 k) := by decide +kernel
def RJxa66e6 : String := "java/util/SequencedCollection"
def TJxa66e6 : u_T := fun k => match k with
  | _ => ("", "", "", false)
def tyJxa66e6 : Nat → FieldType := fun k => match k with
  | _ => .int
abbrev wsJxa66e60 : List Cond := u_ws RJxa66e6 TJxa66e6 0
theorem nmJxa66e6 : ∀ a, a < 0 → ∀ b, b < 0 → a ≠ b → (TJxa66e6 a).2.1 ≠ (TJxa66e6 b).2.1 := by decide +kernel
theorem tyJxa66e6_ok : ∀ k, k < 0 → parseFieldDescriptor (TJxa66e6 k).2.2.1 = some (tyJxa66e6 k) := by decide +kernel
def RJ8 : String := "jdk/internal/util/ArraysSupport"
def TJ8 : u_T := fun k => match k with
  | _ => ("", "", "", false)
def tyJ8 : Nat → FieldType := fun k => match k with
  | _ => .int
abbrev wsJ80 : List Cond := u_ws RJ8 TJ8 0
theorem nmJ8 : ∀ a, a < 0 → ∀ b, b < 0 → a ≠ b → (TJ8 a).2.1 ≠ (TJ8 b).2.1 := by decide +kernel
theorem tyJ8_ok : ∀ k, k < 0 → parseFieldDescriptor (TJ8 k).2.2.1 = some (tyJ8 k) := by decide +kernel
abbrev cJ8_newLength_cabcc : ByteArray := prog_35_method_27_code
def yJ8_newLength_cabcc : MethodName := ⟨RJ8, "newLength", "(III)I"⟩
abbrev cJ8_hugeLength_7cf53 : ByteArray := prog_35_method_28_code
def yJ8_hugeLength_7cf53 : MethodName := ⟨RJ8, "hugeLength", "(II)I"⟩
def RJ3 : String := "jdk/internal/util/Preconditions"
def TJ3 : u_T := fun k => match k with
  | _ => ("", "", "", false)
def tyJ3 : Nat → FieldType := fun k => match k with
  | _ => .int
abbrev wsJ30 : List Cond := u_ws RJ3 TJ3 0
theorem nmJ3 : ∀ a, a < 0 → ∀ b, b < 0 → a ≠ b → (TJ3 a).2.1 ≠ (TJ3 b).2.1 := by decide +kernel
theorem tyJ3_ok : ∀ k, k < 0 → parseFieldDescriptor (TJ3 k).2.2.1 = some (tyJ3 k) := by decide +kernel
abbrev cJ3_checkIndex_8e157 : ByteArray := prog_36_method_11_code
def yJ3_checkIndex_8e157 : MethodName := ⟨RJ3, "checkIndex", "(IILjava/util/function/BiFunction;)I"⟩
def RL : String := "FireNetLaw"
abbrev cL_cell : ByteArray := method_2_code
def yL_cell : MethodName := ⟨RL, "cell", "([II)I"⟩
abbrev cL_low : ByteArray := method_3_code
def yL_low : MethodName := ⟨RL, "low", "(II)I"⟩
abbrev cL_down : ByteArray := method_4_code
def yL_down : MethodName := ⟨RL, "down", "(JJ)J"⟩
abbrev cL_cross : ByteArray := method_5_code
def yL_cross : MethodName := ⟨RL, "cross", "([I[IIII[J)Z"⟩
abbrev cL_joins : ByteArray := method_6_code
def yL_joins : MethodName := ⟨RL, "joins", "([I[III)Z"⟩
abbrev cL_group : ByteArray := method_7_code
def yL_group : MethodName := ⟨RL, "group", "([I[III)I"⟩
abbrev cL_all : ByteArray := method_8_code
def yL_all : MethodName := ⟨RL, "all", "([I[III[J)V"⟩
abbrev cL_weight : ByteArray := method_9_code
def yL_weight : MethodName := ⟨RL, "weight", "([I[JIIII)J"⟩
abbrev cL_chance : ByteArray := method_10_code
def yL_chance : MethodName := ⟨RL, "chance", "([I[JIIII)J"⟩
abbrev cL_right : ByteArray := method_11_code
def yL_right : MethodName := ⟨RL, "right", "(LFireNet;[I[I[III)Z"⟩
abbrev cL_law : ByteArray := code
def yL_law : MethodName := ⟨RL, "law", "([I)Z"⟩
abbrev vwCl : List vw_C := [(RJx4a65c, TJx4a65c, 3), (RX0, TX0, 3), (RX0, TX0, 3), (RX2, TX2, 2), (RX3, TX3, 4), (RX4, TX4, 13), (RX0, TX0, 3), (RX6, TX6, 12), (RX7, TX7, 16), (RX8, TX8, 5), (RX9, TX9, 3), (RX10, TX10, 14)]
end
section
theorem dX0_init_0 : decode cX0_init 0 = .ok (.aload_n 0, 1) := by decide +kernel
theorem dX0_init_1 : decode cX0_init 1 = .ok (.invokespecial 1, 3) := by decide +kernel
theorem dX0_init_4 : decode cX0_init 4 = .ok (.aload_n 0, 1) := by decide +kernel
theorem dX0_init_5 : decode cX0_init 5 = .ok (.iload_n 1, 1) := by decide +kernel
theorem dX0_init_6 : decode cX0_init 6 = .ok (.putfield 7, 3) := by decide +kernel
theorem dX0_init_9 : decode cX0_init 9 = .ok (.aload_n 0, 1) := by decide +kernel
theorem dX0_init_10 : decode cX0_init 10 = .ok (.iload_n 2, 1) := by decide +kernel
theorem dX0_init_11 : decode cX0_init 11 = .ok (.putfield 13, 3) := by decide +kernel
theorem dX0_init_14 : decode cX0_init 14 = .ok (.aload_n 0, 1) := by decide +kernel
theorem dX0_init_15 : decode cX0_init 15 = .ok (.iload_n 3, 1) := by decide +kernel
theorem dX0_init_16 : decode cX0_init 16 = .ok (.putfield 16, 3) := by decide +kernel
theorem dX0_init_19 : decode cX0_init 19 = .ok (.return_, 1) := by decide +kernel
theorem dX2_init_0 : decode cX2_init 0 = .ok (.aload_n 0, 1) := by decide +kernel
theorem dX2_init_1 : decode cX2_init 1 = .ok (.invokespecial 1, 3) := by decide +kernel
theorem dX2_init_4 : decode cX2_init 4 = .ok (.return_, 1) := by decide +kernel
theorem dX2_isOfBegins_0 : decode cX2_isOfBegins 0 = .ok (.aload_n 0, 1) := by decide +kernel
theorem dX2_isOfBegins_1 : decode cX2_isOfBegins 1 = .ok (.aload_n 1, 1) := by decide +kernel
theorem dX2_isOfBegins_2 : decode cX2_isOfBegins 2 = .ok (.getfield 7, 3) := by decide +kernel
theorem dX2_isOfBegins_5 : decode cX2_isOfBegins 5 = .ok (.aload_n 1, 1) := by decide +kernel
theorem dX2_isOfBegins_6 : decode cX2_isOfBegins 6 = .ok (.getfield 13, 3) := by decide +kernel
theorem dX2_isOfBegins_9 : decode cX2_isOfBegins 9 = .ok (.aload_n 1, 1) := by decide +kernel
theorem dX2_isOfBegins_10 : decode cX2_isOfBegins 10 = .ok (.getfield 17, 3) := by decide +kernel
theorem dX2_isOfBegins_13 : decode cX2_isOfBegins 13 = .ok (.aload_n 2, 1) := by decide +kernel
theorem dX2_isOfBegins_14 : decode cX2_isOfBegins 14 = .ok (.getfield 7, 3) := by decide +kernel
theorem dX2_isOfBegins_17 : decode cX2_isOfBegins 17 = .ok (.aload_n 2, 1) := by decide +kernel
theorem dX2_isOfBegins_18 : decode cX2_isOfBegins 18 = .ok (.getfield 13, 3) := by decide +kernel
theorem dX2_isOfBegins_21 : decode cX2_isOfBegins 21 = .ok (.aload_n 2, 1) := by decide +kernel
theorem dX2_isOfBegins_22 : decode cX2_isOfBegins 22 = .ok (.getfield 17, 3) := by decide +kernel
theorem dX2_isOfBegins_25 : decode cX2_isOfBegins 25 = .ok (.invokevirtual 20, 3) := by decide +kernel
theorem dX2_isOfBegins_28 : decode cX2_isOfBegins 28 = .ok (.ireturn, 1) := by decide +kernel
theorem dX2_isOfEnds_0 : decode cX2_isOfEnds 0 = .ok (.aload_n 0, 1) := by decide +kernel
theorem dX2_isOfEnds_1 : decode cX2_isOfEnds 1 = .ok (.aload_n 1, 1) := by decide +kernel
theorem dX2_isOfEnds_2 : decode cX2_isOfEnds 2 = .ok (.getfield 7, 3) := by decide +kernel
theorem dX2_isOfEnds_5 : decode cX2_isOfEnds 5 = .ok (.aload_n 1, 1) := by decide +kernel
theorem dX2_isOfEnds_6 : decode cX2_isOfEnds 6 = .ok (.getfield 26, 3) := by decide +kernel
theorem dX2_isOfEnds_9 : decode cX2_isOfEnds 9 = .ok (.aload_n 1, 1) := by decide +kernel
theorem dX2_isOfEnds_10 : decode cX2_isOfEnds 10 = .ok (.getfield 29, 3) := by decide +kernel
theorem dX2_isOfEnds_13 : decode cX2_isOfEnds 13 = .ok (.aload_n 2, 1) := by decide +kernel
theorem dX2_isOfEnds_14 : decode cX2_isOfEnds 14 = .ok (.getfield 7, 3) := by decide +kernel
theorem dX2_isOfEnds_17 : decode cX2_isOfEnds 17 = .ok (.aload_n 2, 1) := by decide +kernel
theorem dX2_isOfEnds_18 : decode cX2_isOfEnds 18 = .ok (.getfield 26, 3) := by decide +kernel
theorem dX2_isOfEnds_21 : decode cX2_isOfEnds 21 = .ok (.aload_n 2, 1) := by decide +kernel
theorem dX2_isOfEnds_22 : decode cX2_isOfEnds 22 = .ok (.getfield 29, 3) := by decide +kernel
theorem dX2_isOfEnds_25 : decode cX2_isOfEnds 25 = .ok (.invokevirtual 20, 3) := by decide +kernel
theorem dX2_isOfEnds_28 : decode cX2_isOfEnds 28 = .ok (.ireturn, 1) := by decide +kernel
theorem dX2_isOf_0 : decode cX2_isOf 0 = .ok (.iload_n 2, 1) := by decide +kernel
theorem dX2_isOf_1 : decode cX2_isOf 1 = .ok (.i2l, 1) := by decide +kernel
theorem dX2_isOf_2 : decode cX2_isOf 2 = .ok (.iload 6, 2) := by decide +kernel
theorem dX2_isOf_4 : decode cX2_isOf 4 = .ok (.i2l, 1) := by decide +kernel
theorem dX2_isOf_5 : decode cX2_isOf 5 = .ok (.lmul, 1) := by decide +kernel
theorem dX2_isOf_6 : decode cX2_isOf 6 = .ok (.iload_n 3, 1) := by decide +kernel
theorem dX2_isOf_7 : decode cX2_isOf 7 = .ok (.i2l, 1) := by decide +kernel
theorem dX2_isOf_8 : decode cX2_isOf 8 = .ok (.iload 5, 2) := by decide +kernel
theorem dX2_isOf_10 : decode cX2_isOf 10 = .ok (.i2l, 1) := by decide +kernel
theorem dX2_isOf_11 : decode cX2_isOf 11 = .ok (.lmul, 1) := by decide +kernel
theorem dX2_isOf_12 : decode cX2_isOf 12 = .ok (.lsub, 1) := by decide +kernel
theorem dX2_isOf_13 : decode cX2_isOf 13 = .ok (.lstore 7, 2) := by decide +kernel
theorem dX2_isOf_15 : decode cX2_isOf 15 = .ok (.aload 4, 2) := by decide +kernel
theorem dX2_isOf_17 : decode cX2_isOf 17 = .ok (.getfield 32, 3) := by decide +kernel
theorem dX2_isOf_20 : decode cX2_isOf 20 = .ok (.aload_n 1, 1) := by decide +kernel
theorem dX2_isOf_21 : decode cX2_isOf 21 = .ok (.getfield 32, 3) := by decide +kernel
theorem dX2_isOf_24 : decode cX2_isOf 24 = .ok (.isub, 1) := by decide +kernel
theorem dX2_isOf_25 : decode cX2_isOf 25 = .ok (.i2l, 1) := by decide +kernel
theorem dX2_isOf_26 : decode cX2_isOf 26 = .ok (.lstore 9, 2) := by decide +kernel
theorem dX2_isOf_28 : decode cX2_isOf 28 = .ok (.aload 4, 2) := by decide +kernel
theorem dX2_isOf_30 : decode cX2_isOf 30 = .ok (.getfield 37, 3) := by decide +kernel
theorem dX2_isOf_33 : decode cX2_isOf 33 = .ok (.aload_n 1, 1) := by decide +kernel
theorem dX2_isOf_34 : decode cX2_isOf 34 = .ok (.getfield 37, 3) := by decide +kernel
theorem dX2_isOf_37 : decode cX2_isOf 37 = .ok (.isub, 1) := by decide +kernel
theorem dX2_isOf_38 : decode cX2_isOf 38 = .ok (.i2l, 1) := by decide +kernel
theorem dX2_isOf_39 : decode cX2_isOf 39 = .ok (.lstore 11, 2) := by decide +kernel
theorem dX2_isOf_41 : decode cX2_isOf 41 = .ok (.lload 9, 2) := by decide +kernel
theorem dX2_isOf_43 : decode cX2_isOf 43 = .ok (.iload 6, 2) := by decide +kernel
theorem dX2_isOf_45 : decode cX2_isOf 45 = .ok (.i2l, 1) := by decide +kernel
theorem dX2_isOf_46 : decode cX2_isOf 46 = .ok (.lmul, 1) := by decide +kernel
theorem dX2_isOf_47 : decode cX2_isOf 47 = .ok (.lload 11, 2) := by decide +kernel
theorem dX2_isOf_49 : decode cX2_isOf 49 = .ok (.iload 5, 2) := by decide +kernel
theorem dX2_isOf_51 : decode cX2_isOf 51 = .ok (.i2l, 1) := by decide +kernel
theorem dX2_isOf_52 : decode cX2_isOf 52 = .ok (.lmul, 1) := by decide +kernel
theorem dX2_isOf_53 : decode cX2_isOf 53 = .ok (.lsub, 1) := by decide +kernel
theorem dX2_isOf_54 : decode cX2_isOf 54 = .ok (.lstore 13, 2) := by decide +kernel
theorem dX2_isOf_56 : decode cX2_isOf 56 = .ok (.lload 9, 2) := by decide +kernel
theorem dX2_isOf_58 : decode cX2_isOf 58 = .ok (.iload_n 3, 1) := by decide +kernel
theorem dX2_isOf_59 : decode cX2_isOf 59 = .ok (.i2l, 1) := by decide +kernel
theorem dX2_isOf_60 : decode cX2_isOf 60 = .ok (.lmul, 1) := by decide +kernel
theorem dX2_isOf_61 : decode cX2_isOf 61 = .ok (.lload 11, 2) := by decide +kernel
theorem dX2_isOf_63 : decode cX2_isOf 63 = .ok (.iload_n 2, 1) := by decide +kernel
theorem dX2_isOf_64 : decode cX2_isOf 64 = .ok (.i2l, 1) := by decide +kernel
theorem dX2_isOf_65 : decode cX2_isOf 65 = .ok (.lmul, 1) := by decide +kernel
theorem dX2_isOf_66 : decode cX2_isOf 66 = .ok (.lsub, 1) := by decide +kernel
theorem dX2_isOf_67 : decode cX2_isOf 67 = .ok (.lstore 15, 2) := by decide +kernel
theorem dX2_isOf_69 : decode cX2_isOf 69 = .ok (.lload 7, 2) := by decide +kernel
theorem dX2_isOf_71 : decode cX2_isOf 71 = .ok (.lconst 0, 1) := by decide +kernel
theorem dX2_isOf_72 : decode cX2_isOf 72 = .ok (.lcmp, 1) := by decide +kernel
theorem dX2_isOf_73 : decode cX2_isOf 73 = .ok (.ifCond .ge 18, 3) := by decide +kernel
theorem dX2_isOf_76 : decode cX2_isOf 76 = .ok (.lload 7, 2) := by decide +kernel
theorem dX2_isOf_78 : decode cX2_isOf 78 = .ok (.lneg, 1) := by decide +kernel
theorem dX2_isOf_79 : decode cX2_isOf 79 = .ok (.lstore 7, 2) := by decide +kernel
theorem dX2_isOf_81 : decode cX2_isOf 81 = .ok (.lload 13, 2) := by decide +kernel
theorem dX2_isOf_83 : decode cX2_isOf 83 = .ok (.lneg, 1) := by decide +kernel
theorem dX2_isOf_84 : decode cX2_isOf 84 = .ok (.lstore 13, 2) := by decide +kernel
theorem dX2_isOf_86 : decode cX2_isOf 86 = .ok (.lload 15, 2) := by decide +kernel
theorem dX2_isOf_88 : decode cX2_isOf 88 = .ok (.lneg, 1) := by decide +kernel
theorem dX2_isOf_89 : decode cX2_isOf 89 = .ok (.lstore 15, 2) := by decide +kernel
theorem dX2_isOf_91 : decode cX2_isOf 91 = .ok (.lload 7, 2) := by decide +kernel
theorem dX2_isOf_93 : decode cX2_isOf 93 = .ok (.lconst 0, 1) := by decide +kernel
theorem dX2_isOf_94 : decode cX2_isOf 94 = .ok (.lcmp, 1) := by decide +kernel
theorem dX2_isOf_95 : decode cX2_isOf 95 = .ok (.ifCond .eq 17, 3) := by decide +kernel
theorem dX2_isOf_98 : decode cX2_isOf 98 = .ok (.lload 13, 2) := by decide +kernel
theorem dX2_isOf_100 : decode cX2_isOf 100 = .ok (.lconst 0, 1) := by decide +kernel
theorem dX2_isOf_101 : decode cX2_isOf 101 = .ok (.lcmp, 1) := by decide +kernel
theorem dX2_isOf_102 : decode cX2_isOf 102 = .ok (.ifCond .le 10, 3) := by decide +kernel
theorem dX2_isOf_105 : decode cX2_isOf 105 = .ok (.lload 15, 2) := by decide +kernel
theorem dX2_isOf_107 : decode cX2_isOf 107 = .ok (.lconst 0, 1) := by decide +kernel
theorem dX2_isOf_108 : decode cX2_isOf 108 = .ok (.lcmp, 1) := by decide +kernel
theorem dX2_isOf_109 : decode cX2_isOf 109 = .ok (.ifCond .gt 5, 3) := by decide +kernel
theorem dX2_isOf_112 : decode cX2_isOf 112 = .ok (.iconst 0, 1) := by decide +kernel
theorem dX2_isOf_113 : decode cX2_isOf 113 = .ok (.ireturn, 1) := by decide +kernel
theorem dX2_isOf_114 : decode cX2_isOf 114 = .ok (.aload_n 0, 1) := by decide +kernel
theorem dX2_isOf_115 : decode cX2_isOf 115 = .ok (.ldc2_w 40, 3) := by decide +kernel
theorem dX2_isOf_118 : decode cX2_isOf 118 = .ok (.aload_n 1, 1) := by decide +kernel
theorem dX2_isOf_119 : decode cX2_isOf 119 = .ok (.getfield 32, 3) := by decide +kernel
theorem dX2_isOf_122 : decode cX2_isOf 122 = .ok (.i2l, 1) := by decide +kernel
theorem dX2_isOf_123 : decode cX2_isOf 123 = .ok (.lload 7, 2) := by decide +kernel
theorem dX2_isOf_125 : decode cX2_isOf 125 = .ok (.lmul, 1) := by decide +kernel
theorem dX2_isOf_126 : decode cX2_isOf 126 = .ok (.lload 13, 2) := by decide +kernel
theorem dX2_isOf_128 : decode cX2_isOf 128 = .ok (.iload_n 2, 1) := by decide +kernel
theorem dX2_isOf_129 : decode cX2_isOf 129 = .ok (.i2l, 1) := by decide +kernel
theorem dX2_isOf_130 : decode cX2_isOf 130 = .ok (.lmul, 1) := by decide +kernel
theorem dX2_isOf_131 : decode cX2_isOf 131 = .ok (.ladd, 1) := by decide +kernel
theorem dX2_isOf_132 : decode cX2_isOf 132 = .ok (.lmul, 1) := by decide +kernel
theorem dX2_isOf_133 : decode cX2_isOf 133 = .ok (.lload 7, 2) := by decide +kernel
theorem dX2_isOf_135 : decode cX2_isOf 135 = .ok (.invokestatic 42, 3) := by decide +kernel
theorem dX2_isOf_138 : decode cX2_isOf 138 = .ok (.putfield 48, 3) := by decide +kernel
theorem dX2_isOf_141 : decode cX2_isOf 141 = .ok (.aload_n 0, 1) := by decide +kernel
theorem dX2_isOf_142 : decode cX2_isOf 142 = .ok (.ldc2_w 40, 3) := by decide +kernel
theorem dX2_isOf_145 : decode cX2_isOf 145 = .ok (.aload_n 1, 1) := by decide +kernel
theorem dX2_isOf_146 : decode cX2_isOf 146 = .ok (.getfield 37, 3) := by decide +kernel
theorem dX2_isOf_149 : decode cX2_isOf 149 = .ok (.i2l, 1) := by decide +kernel
theorem dX2_isOf_150 : decode cX2_isOf 150 = .ok (.lload 7, 2) := by decide +kernel
theorem dX2_isOf_152 : decode cX2_isOf 152 = .ok (.lmul, 1) := by decide +kernel
theorem dX2_isOf_153 : decode cX2_isOf 153 = .ok (.lload 13, 2) := by decide +kernel
theorem dX2_isOf_155 : decode cX2_isOf 155 = .ok (.iload_n 3, 1) := by decide +kernel
theorem dX2_isOf_156 : decode cX2_isOf 156 = .ok (.i2l, 1) := by decide +kernel
theorem dX2_isOf_157 : decode cX2_isOf 157 = .ok (.lmul, 1) := by decide +kernel
theorem dX2_isOf_158 : decode cX2_isOf 158 = .ok (.ladd, 1) := by decide +kernel
theorem dX2_isOf_159 : decode cX2_isOf 159 = .ok (.lmul, 1) := by decide +kernel
theorem dX2_isOf_160 : decode cX2_isOf 160 = .ok (.lload 7, 2) := by decide +kernel
theorem dX2_isOf_162 : decode cX2_isOf 162 = .ok (.invokestatic 42, 3) := by decide +kernel
theorem dX2_isOf_165 : decode cX2_isOf 165 = .ok (.putfield 51, 3) := by decide +kernel
theorem dX2_isOf_168 : decode cX2_isOf 168 = .ok (.iconst 1, 1) := by decide +kernel
theorem dX2_isOf_169 : decode cX2_isOf 169 = .ok (.ireturn, 1) := by decide +kernel
theorem dX3_init_0 : decode cX3_init 0 = .ok (.aload_n 0, 1) := by decide +kernel
theorem dX3_init_1 : decode cX3_init 1 = .ok (.invokespecial 3, 3) := by decide +kernel
theorem dX3_init_4 : decode cX3_init 4 = .ok (.return_, 1) := by decide +kernel
theorem dX3_scatter_0 : decode cX3_scatter 0 = .ok (.aload_n 0, 1) := by decide +kernel
theorem dX3_scatter_1 : decode cX3_scatter 1 = .ok (.aload_n 1, 1) := by decide +kernel
theorem dX3_scatter_2 : decode cX3_scatter 2 = .ok (.getfield 9, 3) := by decide +kernel
theorem dX3_scatter_5 : decode cX3_scatter 5 = .ok (.putfield 15, 3) := by decide +kernel
theorem dX3_scatter_8 : decode cX3_scatter 8 = .ok (.aload_n 0, 1) := by decide +kernel
theorem dX3_scatter_9 : decode cX3_scatter 9 = .ok (.aload_n 1, 1) := by decide +kernel
theorem dX3_scatter_10 : decode cX3_scatter 10 = .ok (.getfield 18, 3) := by decide +kernel
theorem dX3_scatter_13 : decode cX3_scatter 13 = .ok (.putfield 21, 3) := by decide +kernel
theorem dX3_scatter_16 : decode cX3_scatter 16 = .ok (.aload_n 0, 1) := by decide +kernel
theorem dX3_scatter_17 : decode cX3_scatter 17 = .ok (.iload_n 2, 1) := by decide +kernel
theorem dX3_scatter_18 : decode cX3_scatter 18 = .ok (.putfield 22, 3) := by decide +kernel
theorem dX3_scatter_21 : decode cX3_scatter 21 = .ok (.aload_n 0, 1) := by decide +kernel
theorem dX3_scatter_22 : decode cX3_scatter 22 = .ok (.iload_n 3, 1) := by decide +kernel
theorem dX3_scatter_23 : decode cX3_scatter 23 = .ok (.putfield 26, 3) := by decide +kernel
theorem dX3_scatter_26 : decode cX3_scatter 26 = .ok (.return_, 1) := by decide +kernel
theorem dX3_pieceX_0 : decode cX3_pieceX 0 = .ok (.aload_n 0, 1) := by decide +kernel
theorem dX3_pieceX_1 : decode cX3_pieceX 1 = .ok (.getfield 15, 3) := by decide +kernel
theorem dX3_pieceX_4 : decode cX3_pieceX 4 = .ok (.aload_n 0, 1) := by decide +kernel
theorem dX3_pieceX_5 : decode cX3_pieceX 5 = .ok (.getfield 22, 3) := by decide +kernel
theorem dX3_pieceX_8 : decode cX3_pieceX 8 = .ok (.bipush 20, 2) := by decide +kernel
theorem dX3_pieceX_10 : decode cX3_pieceX 10 = .ok (.imul, 1) := by decide +kernel
theorem dX3_pieceX_11 : decode cX3_pieceX 11 = .ok (.bipush 6, 2) := by decide +kernel
theorem dX3_pieceX_13 : decode cX3_pieceX 13 = .ok (.iload_n 1, 1) := by decide +kernel
theorem dX3_pieceX_14 : decode cX3_pieceX 14 = .ok (.isub, 1) := by decide +kernel
theorem dX3_pieceX_15 : decode cX3_pieceX 15 = .ok (.imul, 1) := by decide +kernel
theorem dX3_pieceX_16 : decode cX3_pieceX 16 = .ok (.i2l, 1) := by decide +kernel
theorem dX3_pieceX_17 : decode cX3_pieceX 17 = .ok (.ladd, 1) := by decide +kernel
theorem dX3_pieceX_18 : decode cX3_pieceX 18 = .ok (.ldc2_w 29, 3) := by decide +kernel
theorem dX3_pieceX_21 : decode cX3_pieceX 21 = .ok (.invokestatic 31, 3) := by decide +kernel
theorem dX3_pieceX_24 : decode cX3_pieceX 24 = .ok (.lreturn, 1) := by decide +kernel
theorem dX3_pieceY_0 : decode cX3_pieceY 0 = .ok (.aload_n 0, 1) := by decide +kernel
theorem dX3_pieceY_1 : decode cX3_pieceY 1 = .ok (.getfield 21, 3) := by decide +kernel
theorem dX3_pieceY_4 : decode cX3_pieceY 4 = .ok (.aload_n 0, 1) := by decide +kernel
theorem dX3_pieceY_5 : decode cX3_pieceY 5 = .ok (.getfield 26, 3) := by decide +kernel
theorem dX3_pieceY_8 : decode cX3_pieceY 8 = .ok (.bipush 20, 2) := by decide +kernel
theorem dX3_pieceY_10 : decode cX3_pieceY 10 = .ok (.imul, 1) := by decide +kernel
theorem dX3_pieceY_11 : decode cX3_pieceY 11 = .ok (.bipush 6, 2) := by decide +kernel
theorem dX3_pieceY_13 : decode cX3_pieceY 13 = .ok (.iload_n 1, 1) := by decide +kernel
theorem dX3_pieceY_14 : decode cX3_pieceY 14 = .ok (.isub, 1) := by decide +kernel
theorem dX3_pieceY_15 : decode cX3_pieceY 15 = .ok (.imul, 1) := by decide +kernel
theorem dX3_pieceY_16 : decode cX3_pieceY 16 = .ok (.i2l, 1) := by decide +kernel
theorem dX3_pieceY_17 : decode cX3_pieceY 17 = .ok (.ladd, 1) := by decide +kernel
theorem dX3_pieceY_18 : decode cX3_pieceY 18 = .ok (.ldc2_w 29, 3) := by decide +kernel
theorem dX3_pieceY_21 : decode cX3_pieceY 21 = .ok (.invokestatic 31, 3) := by decide +kernel
theorem dX3_pieceY_24 : decode cX3_pieceY 24 = .ok (.lreturn, 1) := by decide +kernel
theorem dX3_weight_0 : decode cX3_weight 0 = .ok (.lconst 0, 1) := by decide +kernel
theorem dX3_weight_1 : decode cX3_weight 1 = .ok (.lstore_n 3, 1) := by decide +kernel
theorem dX3_weight_2 : decode cX3_weight 2 = .ok (.iconst 1, 1) := by decide +kernel
theorem dX3_weight_3 : decode cX3_weight 3 = .ok (.istore 5, 2) := by decide +kernel
theorem dX3_weight_5 : decode cX3_weight 5 = .ok (.iload 5, 2) := by decide +kernel
theorem dX3_weight_7 : decode cX3_weight 7 = .ok (.iconst 5, 1) := by decide +kernel
theorem dX3_weight_8 : decode cX3_weight 8 = .ok (.if_icmp .gt 51, 3) := by decide +kernel
theorem dX3_weight_11 : decode cX3_weight 11 = .ok (.iload_n 1, 1) := by decide +kernel
theorem dX3_weight_12 : decode cX3_weight 12 = .ok (.i2l, 1) := by decide +kernel
theorem dX3_weight_13 : decode cX3_weight 13 = .ok (.aload_n 0, 1) := by decide +kernel
theorem dX3_weight_14 : decode cX3_weight 14 = .ok (.iload 5, 2) := by decide +kernel
theorem dX3_weight_16 : decode cX3_weight 16 = .ok (.invokevirtual 37, 3) := by decide +kernel
theorem dX3_weight_19 : decode cX3_weight 19 = .ok (.lsub, 1) := by decide +kernel
theorem dX3_weight_20 : decode cX3_weight 20 = .ok (.invokestatic 41, 3) := by decide +kernel
theorem dX3_weight_23 : decode cX3_weight 23 = .ok (.iload_n 2, 1) := by decide +kernel
theorem dX3_weight_24 : decode cX3_weight 24 = .ok (.i2l, 1) := by decide +kernel
theorem dX3_weight_25 : decode cX3_weight 25 = .ok (.aload_n 0, 1) := by decide +kernel
theorem dX3_weight_26 : decode cX3_weight 26 = .ok (.iload 5, 2) := by decide +kernel
theorem dX3_weight_28 : decode cX3_weight 28 = .ok (.invokevirtual 45, 3) := by decide +kernel
theorem dX3_weight_31 : decode cX3_weight 31 = .ok (.lsub, 1) := by decide +kernel
theorem dX3_weight_32 : decode cX3_weight 32 = .ok (.invokestatic 41, 3) := by decide +kernel
theorem dX3_weight_35 : decode cX3_weight 35 = .ok (.invokestatic 48, 3) := by decide +kernel
theorem dX3_weight_38 : decode cX3_weight 38 = .ok (.lstore 6, 2) := by decide +kernel
theorem dX3_weight_40 : decode cX3_weight 40 = .ok (.lload_n 3, 1) := by decide +kernel
theorem dX3_weight_41 : decode cX3_weight 41 = .ok (.lconst 0, 1) := by decide +kernel
theorem dX3_weight_42 : decode cX3_weight 42 = .ok (.ldc2_w 51, 3) := by decide +kernel
theorem dX3_weight_45 : decode cX3_weight 45 = .ok (.lload 6, 2) := by decide +kernel
theorem dX3_weight_47 : decode cX3_weight 47 = .ok (.lsub, 1) := by decide +kernel
theorem dX3_weight_48 : decode cX3_weight 48 = .ok (.invokestatic 48, 3) := by decide +kernel
theorem dX3_weight_51 : decode cX3_weight 51 = .ok (.ladd, 1) := by decide +kernel
theorem dX3_weight_52 : decode cX3_weight 52 = .ok (.lstore_n 3, 1) := by decide +kernel
theorem dX3_weight_53 : decode cX3_weight 53 = .ok (.iinc 5 1, 3) := by decide +kernel
theorem dX3_weight_56 : decode cX3_weight 56 = .ok (.goto (-51), 3) := by decide +kernel
theorem dX3_weight_59 : decode cX3_weight 59 = .ok (.ldc2_w 53, 3) := by decide +kernel
theorem dX3_weight_62 : decode cX3_weight 62 = .ok (.lload_n 3, 1) := by decide +kernel
theorem dX3_weight_63 : decode cX3_weight 63 = .ok (.lmul, 1) := by decide +kernel
theorem dX3_weight_64 : decode cX3_weight 64 = .ok (.lreturn, 1) := by decide +kernel
theorem dX3_weightOfGround_0 : decode cX3_weightOfGround 0 = .ok (.lconst 0, 1) := by decide +kernel
theorem dX3_weightOfGround_1 : decode cX3_weightOfGround 1 = .ok (.lstore_n 1, 1) := by decide +kernel
theorem dX3_weightOfGround_2 : decode cX3_weightOfGround 2 = .ok (.iconst 1, 1) := by decide +kernel
theorem dX3_weightOfGround_3 : decode cX3_weightOfGround 3 = .ok (.istore_n 3, 1) := by decide +kernel
theorem dX3_weightOfGround_4 : decode cX3_weightOfGround 4 = .ok (.iload_n 3, 1) := by decide +kernel
theorem dX3_weightOfGround_5 : decode cX3_weightOfGround 5 = .ok (.iconst 5, 1) := by decide +kernel
theorem dX3_weightOfGround_6 : decode cX3_weightOfGround 6 = .ok (.if_icmp .gt 57, 3) := by decide +kernel
theorem dX3_weightOfGround_9 : decode cX3_weightOfGround 9 = .ok (.aload_n 0, 1) := by decide +kernel
theorem dX3_weightOfGround_10 : decode cX3_weightOfGround 10 = .ok (.iload_n 3, 1) := by decide +kernel
theorem dX3_weightOfGround_11 : decode cX3_weightOfGround 11 = .ok (.invokevirtual 37, 3) := by decide +kernel
theorem dX3_weightOfGround_14 : decode cX3_weightOfGround 14 = .ok (.lstore 4, 2) := by decide +kernel
theorem dX3_weightOfGround_16 : decode cX3_weightOfGround 16 = .ok (.aload_n 0, 1) := by decide +kernel
theorem dX3_weightOfGround_17 : decode cX3_weightOfGround 17 = .ok (.iload_n 3, 1) := by decide +kernel
theorem dX3_weightOfGround_18 : decode cX3_weightOfGround 18 = .ok (.invokevirtual 45, 3) := by decide +kernel
theorem dX3_weightOfGround_21 : decode cX3_weightOfGround 21 = .ok (.lstore 6, 2) := by decide +kernel
theorem dX3_weightOfGround_23 : decode cX3_weightOfGround 23 = .ok (.iconst 0, 1) := by decide +kernel
theorem dX3_weightOfGround_24 : decode cX3_weightOfGround 24 = .ok (.istore 8, 2) := by decide +kernel
theorem dX3_weightOfGround_26 : decode cX3_weightOfGround 26 = .ok (.iload 8, 2) := by decide +kernel
theorem dX3_weightOfGround_28 : decode cX3_weightOfGround 28 = .ok (.bipush 8, 2) := by decide +kernel
theorem dX3_weightOfGround_30 : decode cX3_weightOfGround 30 = .ok (.if_icmp .ge 27, 3) := by decide +kernel
theorem dX3_weightOfGround_33 : decode cX3_weightOfGround 33 = .ok (.lload_n 1, 1) := by decide +kernel
theorem dX3_weightOfGround_34 : decode cX3_weightOfGround 34 = .ok (.lload 4, 2) := by decide +kernel
theorem dX3_weightOfGround_36 : decode cX3_weightOfGround 36 = .ok (.iload 8, 2) := by decide +kernel
theorem dX3_weightOfGround_38 : decode cX3_weightOfGround 38 = .ok (.invokestatic 55, 3) := by decide +kernel
theorem dX3_weightOfGround_41 : decode cX3_weightOfGround 41 = .ok (.lload 6, 2) := by decide +kernel
theorem dX3_weightOfGround_43 : decode cX3_weightOfGround 43 = .ok (.iload 8, 2) := by decide +kernel
theorem dX3_weightOfGround_45 : decode cX3_weightOfGround 45 = .ok (.invokestatic 55, 3) := by decide +kernel
theorem dX3_weightOfGround_48 : decode cX3_weightOfGround 48 = .ok (.lmul, 1) := by decide +kernel
theorem dX3_weightOfGround_49 : decode cX3_weightOfGround 49 = .ok (.ladd, 1) := by decide +kernel
theorem dX3_weightOfGround_50 : decode cX3_weightOfGround 50 = .ok (.lstore_n 1, 1) := by decide +kernel
theorem dX3_weightOfGround_51 : decode cX3_weightOfGround 51 = .ok (.iinc 8 1, 3) := by decide +kernel
theorem dX3_weightOfGround_54 : decode cX3_weightOfGround 54 = .ok (.goto (-28), 3) := by decide +kernel
theorem dX3_weightOfGround_57 : decode cX3_weightOfGround 57 = .ok (.iinc 3 1, 3) := by decide +kernel
theorem dX3_weightOfGround_60 : decode cX3_weightOfGround 60 = .ok (.goto (-56), 3) := by decide +kernel
theorem dX3_weightOfGround_63 : decode cX3_weightOfGround 63 = .ok (.ldc2_w 53, 3) := by decide +kernel
theorem dX3_weightOfGround_66 : decode cX3_weightOfGround 66 = .ok (.lload_n 1, 1) := by decide +kernel
theorem dX3_weightOfGround_67 : decode cX3_weightOfGround 67 = .ok (.lmul, 1) := by decide +kernel
theorem dX3_weightOfGround_68 : decode cX3_weightOfGround 68 = .ok (.lreturn, 1) := by decide +kernel
theorem dX3_cellsWithin_0 : decode cX3_cellsWithin 0 = .ok (.lconst 0, 1) := by decide +kernel
theorem dX3_cellsWithin_1 : decode cX3_cellsWithin 1 = .ok (.lload_n 0, 1) := by decide +kernel
theorem dX3_cellsWithin_2 : decode cX3_cellsWithin 2 = .ok (.iload_n 2, 1) := by decide +kernel
theorem dX3_cellsWithin_3 : decode cX3_cellsWithin 3 = .ok (.i2l, 1) := by decide +kernel
theorem dX3_cellsWithin_4 : decode cX3_cellsWithin 4 = .ok (.lsub, 1) := by decide +kernel
theorem dX3_cellsWithin_5 : decode cX3_cellsWithin 5 = .ok (.invokestatic 48, 3) := by decide +kernel
theorem dX3_cellsWithin_8 : decode cX3_cellsWithin 8 = .ok (.lstore_n 3, 1) := by decide +kernel
theorem dX3_cellsWithin_9 : decode cX3_cellsWithin 9 = .ok (.ldc2_w 59, 3) := by decide +kernel
theorem dX3_cellsWithin_12 : decode cX3_cellsWithin 12 = .ok (.lload_n 0, 1) := by decide +kernel
theorem dX3_cellsWithin_13 : decode cX3_cellsWithin 13 = .ok (.iload_n 2, 1) := by decide +kernel
theorem dX3_cellsWithin_14 : decode cX3_cellsWithin 14 = .ok (.i2l, 1) := by decide +kernel
theorem dX3_cellsWithin_15 : decode cX3_cellsWithin 15 = .ok (.ladd, 1) := by decide +kernel
theorem dX3_cellsWithin_16 : decode cX3_cellsWithin 16 = .ok (.invokestatic 61, 3) := by decide +kernel
theorem dX3_cellsWithin_19 : decode cX3_cellsWithin 19 = .ok (.lstore 5, 2) := by decide +kernel
theorem dX3_cellsWithin_21 : decode cX3_cellsWithin 21 = .ok (.lconst 0, 1) := by decide +kernel
theorem dX3_cellsWithin_22 : decode cX3_cellsWithin 22 = .ok (.lload 5, 2) := by decide +kernel
theorem dX3_cellsWithin_24 : decode cX3_cellsWithin 24 = .ok (.lload_n 3, 1) := by decide +kernel
theorem dX3_cellsWithin_25 : decode cX3_cellsWithin 25 = .ok (.lsub, 1) := by decide +kernel
theorem dX3_cellsWithin_26 : decode cX3_cellsWithin 26 = .ok (.lconst 1, 1) := by decide +kernel
theorem dX3_cellsWithin_27 : decode cX3_cellsWithin 27 = .ok (.ladd, 1) := by decide +kernel
theorem dX3_cellsWithin_28 : decode cX3_cellsWithin 28 = .ok (.invokestatic 48, 3) := by decide +kernel
theorem dX3_cellsWithin_31 : decode cX3_cellsWithin 31 = .ok (.lreturn, 1) := by decide +kernel
theorem dX4_init_0 : decode cX4_init 0 = .ok (.aload_n 0, 1) := by decide +kernel
theorem dX4_init_1 : decode cX4_init 1 = .ok (.invokespecial 1, 3) := by decide +kernel
theorem dX4_init_4 : decode cX4_init 4 = .ok (.return_, 1) := by decide +kernel
theorem dX4_exists_0 : decode cX4_exists 0 = .ok (.aload_n 0, 1) := by decide +kernel
theorem dX4_exists_1 : decode cX4_exists 1 = .ok (.getfield 7, 3) := by decide +kernel
theorem dX4_exists_4 : decode cX4_exists 4 = .ok (.ifCond .le 7, 3) := by decide +kernel
theorem dX4_exists_7 : decode cX4_exists 7 = .ok (.iconst 1, 1) := by decide +kernel
theorem dX4_exists_8 : decode cX4_exists 8 = .ok (.goto 4, 3) := by decide +kernel
theorem dX4_exists_11 : decode cX4_exists 11 = .ok (.iconst 0, 1) := by decide +kernel
theorem dX4_exists_12 : decode cX4_exists 12 = .ok (.ireturn, 1) := by decide +kernel
theorem dX4_clear_0 : decode cX4_clear 0 = .ok (.aload_n 0, 1) := by decide +kernel
theorem dX4_clear_1 : decode cX4_clear 1 = .ok (.iconst 0, 1) := by decide +kernel
theorem dX4_clear_2 : decode cX4_clear 2 = .ok (.putfield 7, 3) := by decide +kernel
theorem dX4_clear_5 : decode cX4_clear 5 = .ok (.aload_n 0, 1) := by decide +kernel
theorem dX4_clear_6 : decode cX4_clear 6 = .ok (.iconst 0, 1) := by decide +kernel
theorem dX4_clear_7 : decode cX4_clear 7 = .ok (.putfield 13, 3) := by decide +kernel
theorem dX4_clear_10 : decode cX4_clear 10 = .ok (.aload_n 0, 1) := by decide +kernel
theorem dX4_clear_11 : decode cX4_clear 11 = .ok (.lconst 0, 1) := by decide +kernel
theorem dX4_clear_12 : decode cX4_clear 12 = .ok (.putfield 16, 3) := by decide +kernel
theorem dX4_clear_15 : decode cX4_clear 15 = .ok (.aload_n 0, 1) := by decide +kernel
theorem dX4_clear_16 : decode cX4_clear 16 = .ok (.lconst 0, 1) := by decide +kernel
theorem dX4_clear_17 : decode cX4_clear 17 = .ok (.putfield 20, 3) := by decide +kernel
theorem dX4_clear_20 : decode cX4_clear 20 = .ok (.aload_n 0, 1) := by decide +kernel
theorem dX4_clear_21 : decode cX4_clear 21 = .ok (.lconst 0, 1) := by decide +kernel
theorem dX4_clear_22 : decode cX4_clear 22 = .ok (.putfield 23, 3) := by decide +kernel
theorem dX4_clear_25 : decode cX4_clear 25 = .ok (.aload_n 0, 1) := by decide +kernel
theorem dX4_clear_26 : decode cX4_clear 26 = .ok (.lconst 0, 1) := by decide +kernel
theorem dX4_clear_27 : decode cX4_clear 27 = .ok (.putfield 26, 3) := by decide +kernel
theorem dX4_clear_30 : decode cX4_clear 30 = .ok (.aload_n 0, 1) := by decide +kernel
theorem dX4_clear_31 : decode cX4_clear 31 = .ok (.lconst 0, 1) := by decide +kernel
theorem dX4_clear_32 : decode cX4_clear 32 = .ok (.putfield 29, 3) := by decide +kernel
theorem dX4_clear_35 : decode cX4_clear 35 = .ok (.aload_n 0, 1) := by decide +kernel
theorem dX4_clear_36 : decode cX4_clear 36 = .ok (.lconst 0, 1) := by decide +kernel
theorem dX4_clear_37 : decode cX4_clear 37 = .ok (.putfield 32, 3) := by decide +kernel
theorem dX4_clear_40 : decode cX4_clear 40 = .ok (.aload_n 0, 1) := by decide +kernel
theorem dX4_clear_41 : decode cX4_clear 41 = .ok (.lconst 0, 1) := by decide +kernel
theorem dX4_clear_42 : decode cX4_clear 42 = .ok (.putfield 35, 3) := by decide +kernel
theorem dX4_clear_45 : decode cX4_clear 45 = .ok (.return_, 1) := by decide +kernel
theorem dX4_add_0 : decode cX4_add 0 = .ok (.aload_n 0, 1) := by decide +kernel
theorem dX4_add_1 : decode cX4_add 1 = .ok (.aload_n 1, 1) := by decide +kernel
theorem dX4_add_2 : decode cX4_add 2 = .ok (.getfield 38, 3) := by decide +kernel
theorem dX4_add_5 : decode cX4_add 5 = .ok (.putfield 43, 3) := by decide +kernel
theorem dX4_add_8 : decode cX4_add 8 = .ok (.aload_n 0, 1) := by decide +kernel
theorem dX4_add_9 : decode cX4_add 9 = .ok (.dup, 1) := by decide +kernel
theorem dX4_add_10 : decode cX4_add 10 = .ok (.getfield 7, 3) := by decide +kernel
theorem dX4_add_13 : decode cX4_add 13 = .ok (.iconst 1, 1) := by decide +kernel
theorem dX4_add_14 : decode cX4_add 14 = .ok (.iadd, 1) := by decide +kernel
theorem dX4_add_15 : decode cX4_add 15 = .ok (.putfield 7, 3) := by decide +kernel
theorem dX4_add_18 : decode cX4_add 18 = .ok (.aload_n 0, 1) := by decide +kernel
theorem dX4_add_19 : decode cX4_add 19 = .ok (.dup, 1) := by decide +kernel
theorem dX4_add_20 : decode cX4_add 20 = .ok (.getfield 16, 3) := by decide +kernel
theorem dX4_add_23 : decode cX4_add 23 = .ok (.aload_n 1, 1) := by decide +kernel
theorem dX4_add_24 : decode cX4_add 24 = .ok (.getfield 44, 3) := by decide +kernel
theorem dX4_add_27 : decode cX4_add 27 = .ok (.i2l, 1) := by decide +kernel
theorem dX4_add_28 : decode cX4_add 28 = .ok (.ladd, 1) := by decide +kernel
theorem dX4_add_29 : decode cX4_add 29 = .ok (.putfield 16, 3) := by decide +kernel
theorem dX4_add_32 : decode cX4_add 32 = .ok (.aload_n 0, 1) := by decide +kernel
theorem dX4_add_33 : decode cX4_add 33 = .ok (.dup, 1) := by decide +kernel
theorem dX4_add_34 : decode cX4_add 34 = .ok (.getfield 20, 3) := by decide +kernel
theorem dX4_add_37 : decode cX4_add 37 = .ok (.aload_n 1, 1) := by decide +kernel
theorem dX4_add_38 : decode cX4_add 38 = .ok (.getfield 47, 3) := by decide +kernel
theorem dX4_add_41 : decode cX4_add 41 = .ok (.i2l, 1) := by decide +kernel
theorem dX4_add_42 : decode cX4_add 42 = .ok (.aload_n 1, 1) := by decide +kernel
theorem dX4_add_43 : decode cX4_add 43 = .ok (.getfield 44, 3) := by decide +kernel
theorem dX4_add_46 : decode cX4_add 46 = .ok (.i2l, 1) := by decide +kernel
theorem dX4_add_47 : decode cX4_add 47 = .ok (.lmul, 1) := by decide +kernel
theorem dX4_add_48 : decode cX4_add 48 = .ok (.ladd, 1) := by decide +kernel
theorem dX4_add_49 : decode cX4_add 49 = .ok (.putfield 20, 3) := by decide +kernel
theorem dX4_add_52 : decode cX4_add 52 = .ok (.aload_n 0, 1) := by decide +kernel
theorem dX4_add_53 : decode cX4_add 53 = .ok (.aload_n 0, 1) := by decide +kernel
theorem dX4_add_54 : decode cX4_add 54 = .ok (.getfield 23, 3) := by decide +kernel
theorem dX4_add_57 : decode cX4_add 57 = .ok (.aload_n 1, 1) := by decide +kernel
theorem dX4_add_58 : decode cX4_add 58 = .ok (.getfield 47, 3) := by decide +kernel
theorem dX4_add_61 : decode cX4_add 61 = .ok (.i2l, 1) := by decide +kernel
theorem dX4_add_62 : decode cX4_add 62 = .ok (.invokestatic 50, 3) := by decide +kernel
theorem dX4_add_65 : decode cX4_add 65 = .ok (.putfield 23, 3) := by decide +kernel
theorem dX4_add_68 : decode cX4_add 68 = .ok (.return_, 1) := by decide +kernel
theorem dX4_addPair_0 : decode cX4_addPair 0 = .ok (.aload_n 0, 1) := by decide +kernel
theorem dX4_addPair_1 : decode cX4_addPair 1 = .ok (.dup, 1) := by decide +kernel
theorem dX4_addPair_2 : decode cX4_addPair 2 = .ok (.getfield 13, 3) := by decide +kernel
theorem dX4_addPair_5 : decode cX4_addPair 5 = .ok (.iconst 1, 1) := by decide +kernel
theorem dX4_addPair_6 : decode cX4_addPair 6 = .ok (.iadd, 1) := by decide +kernel
theorem dX4_addPair_7 : decode cX4_addPair 7 = .ok (.putfield 13, 3) := by decide +kernel
theorem dX4_addPair_10 : decode cX4_addPair 10 = .ok (.aload_n 0, 1) := by decide +kernel
theorem dX4_addPair_11 : decode cX4_addPair 11 = .ok (.dup, 1) := by decide +kernel
theorem dX4_addPair_12 : decode cX4_addPair 12 = .ok (.getfield 26, 3) := by decide +kernel
theorem dX4_addPair_15 : decode cX4_addPair 15 = .ok (.aload_n 1, 1) := by decide +kernel
theorem dX4_addPair_16 : decode cX4_addPair 16 = .ok (.getfield 56, 3) := by decide +kernel
theorem dX4_addPair_19 : decode cX4_addPair 19 = .ok (.ladd, 1) := by decide +kernel
theorem dX4_addPair_20 : decode cX4_addPair 20 = .ok (.putfield 26, 3) := by decide +kernel
theorem dX4_addPair_23 : decode cX4_addPair 23 = .ok (.aload_n 0, 1) := by decide +kernel
theorem dX4_addPair_24 : decode cX4_addPair 24 = .ok (.dup, 1) := by decide +kernel
theorem dX4_addPair_25 : decode cX4_addPair 25 = .ok (.getfield 29, 3) := by decide +kernel
theorem dX4_addPair_28 : decode cX4_addPair 28 = .ok (.aload_n 1, 1) := by decide +kernel
theorem dX4_addPair_29 : decode cX4_addPair 29 = .ok (.getfield 61, 3) := by decide +kernel
theorem dX4_addPair_32 : decode cX4_addPair 32 = .ok (.ladd, 1) := by decide +kernel
theorem dX4_addPair_33 : decode cX4_addPair 33 = .ok (.putfield 29, 3) := by decide +kernel
theorem dX4_addPair_36 : decode cX4_addPair 36 = .ok (.aload_n 0, 1) := by decide +kernel
theorem dX4_addPair_37 : decode cX4_addPair 37 = .ok (.dup, 1) := by decide +kernel
theorem dX4_addPair_38 : decode cX4_addPair 38 = .ok (.getfield 32, 3) := by decide +kernel
theorem dX4_addPair_41 : decode cX4_addPair 41 = .ok (.aload_n 2, 1) := by decide +kernel
theorem dX4_addPair_42 : decode cX4_addPair 42 = .ok (.getfield 56, 3) := by decide +kernel
theorem dX4_addPair_45 : decode cX4_addPair 45 = .ok (.ladd, 1) := by decide +kernel
theorem dX4_addPair_46 : decode cX4_addPair 46 = .ok (.putfield 32, 3) := by decide +kernel
theorem dX4_addPair_49 : decode cX4_addPair 49 = .ok (.aload_n 0, 1) := by decide +kernel
theorem dX4_addPair_50 : decode cX4_addPair 50 = .ok (.dup, 1) := by decide +kernel
theorem dX4_addPair_51 : decode cX4_addPair 51 = .ok (.getfield 35, 3) := by decide +kernel
theorem dX4_addPair_54 : decode cX4_addPair 54 = .ok (.aload_n 2, 1) := by decide +kernel
theorem dX4_addPair_55 : decode cX4_addPair 55 = .ok (.getfield 61, 3) := by decide +kernel
theorem dX4_addPair_58 : decode cX4_addPair 58 = .ok (.ladd, 1) := by decide +kernel
theorem dX4_addPair_59 : decode cX4_addPair 59 = .ok (.putfield 35, 3) := by decide +kernel
theorem dX4_addPair_62 : decode cX4_addPair 62 = .ok (.return_, 1) := by decide +kernel
theorem dX4_settle_0 : decode cX4_settle 0 = .ok (.aload_n 0, 1) := by decide +kernel
theorem dX4_settle_1 : decode cX4_settle 1 = .ok (.aload_n 0, 1) := by decide +kernel
theorem dX4_settle_2 : decode cX4_settle 2 = .ok (.getfield 26, 3) := by decide +kernel
theorem dX4_settle_5 : decode cX4_settle 5 = .ok (.aload_n 0, 1) := by decide +kernel
theorem dX4_settle_6 : decode cX4_settle 6 = .ok (.getfield 13, 3) := by decide +kernel
theorem dX4_settle_9 : decode cX4_settle 9 = .ok (.i2l, 1) := by decide +kernel
theorem dX4_settle_10 : decode cX4_settle 10 = .ok (.invokestatic 64, 3) := by decide +kernel
theorem dX4_settle_13 : decode cX4_settle 13 = .ok (.putfield 26, 3) := by decide +kernel
theorem dX4_settle_16 : decode cX4_settle 16 = .ok (.aload_n 0, 1) := by decide +kernel
theorem dX4_settle_17 : decode cX4_settle 17 = .ok (.aload_n 0, 1) := by decide +kernel
theorem dX4_settle_18 : decode cX4_settle 18 = .ok (.getfield 29, 3) := by decide +kernel
theorem dX4_settle_21 : decode cX4_settle 21 = .ok (.aload_n 0, 1) := by decide +kernel
theorem dX4_settle_22 : decode cX4_settle 22 = .ok (.getfield 13, 3) := by decide +kernel
theorem dX4_settle_25 : decode cX4_settle 25 = .ok (.i2l, 1) := by decide +kernel
theorem dX4_settle_26 : decode cX4_settle 26 = .ok (.invokestatic 64, 3) := by decide +kernel
theorem dX4_settle_29 : decode cX4_settle 29 = .ok (.putfield 29, 3) := by decide +kernel
theorem dX4_settle_32 : decode cX4_settle 32 = .ok (.aload_n 0, 1) := by decide +kernel
theorem dX4_settle_33 : decode cX4_settle 33 = .ok (.aload_n 0, 1) := by decide +kernel
theorem dX4_settle_34 : decode cX4_settle 34 = .ok (.getfield 32, 3) := by decide +kernel
theorem dX4_settle_37 : decode cX4_settle 37 = .ok (.aload_n 0, 1) := by decide +kernel
theorem dX4_settle_38 : decode cX4_settle 38 = .ok (.getfield 13, 3) := by decide +kernel
theorem dX4_settle_41 : decode cX4_settle 41 = .ok (.i2l, 1) := by decide +kernel
theorem dX4_settle_42 : decode cX4_settle 42 = .ok (.invokestatic 64, 3) := by decide +kernel
theorem dX4_settle_45 : decode cX4_settle 45 = .ok (.putfield 32, 3) := by decide +kernel
theorem dX4_settle_48 : decode cX4_settle 48 = .ok (.aload_n 0, 1) := by decide +kernel
theorem dX4_settle_49 : decode cX4_settle 49 = .ok (.aload_n 0, 1) := by decide +kernel
theorem dX4_settle_50 : decode cX4_settle 50 = .ok (.getfield 35, 3) := by decide +kernel
theorem dX4_settle_53 : decode cX4_settle 53 = .ok (.aload_n 0, 1) := by decide +kernel
theorem dX4_settle_54 : decode cX4_settle 54 = .ok (.getfield 13, 3) := by decide +kernel
theorem dX4_settle_57 : decode cX4_settle 57 = .ok (.i2l, 1) := by decide +kernel
theorem dX4_settle_58 : decode cX4_settle 58 = .ok (.invokestatic 64, 3) := by decide +kernel
theorem dX4_settle_61 : decode cX4_settle 61 = .ok (.putfield 35, 3) := by decide +kernel
theorem dX4_settle_64 : decode cX4_settle 64 = .ok (.aload_n 0, 1) := by decide +kernel
theorem dX4_settle_65 : decode cX4_settle 65 = .ok (.invokevirtual 69, 3) := by decide +kernel
theorem dX4_settle_68 : decode cX4_settle 68 = .ok (.aload_n 0, 1) := by decide +kernel
theorem dX4_settle_69 : decode cX4_settle 69 = .ok (.invokevirtual 69, 3) := by decide +kernel
theorem dX4_settle_72 : decode cX4_settle 72 = .ok (.lmul, 1) := by decide +kernel
theorem dX4_settle_73 : decode cX4_settle 73 = .ok (.aload_n 0, 1) := by decide +kernel
theorem dX4_settle_74 : decode cX4_settle 74 = .ok (.invokevirtual 73, 3) := by decide +kernel
theorem dX4_settle_77 : decode cX4_settle 77 = .ok (.aload_n 0, 1) := by decide +kernel
theorem dX4_settle_78 : decode cX4_settle 78 = .ok (.invokevirtual 73, 3) := by decide +kernel
theorem dX4_settle_81 : decode cX4_settle 81 = .ok (.lmul, 1) := by decide +kernel
theorem dX4_settle_82 : decode cX4_settle 82 = .ok (.ladd, 1) := by decide +kernel
theorem dX4_settle_83 : decode cX4_settle 83 = .ok (.invokestatic 76, 3) := by decide +kernel
theorem dX4_settle_86 : decode cX4_settle 86 = .ok (.lstore_n 1, 1) := by decide +kernel
theorem dX4_settle_87 : decode cX4_settle 87 = .ok (.aload_n 0, 1) := by decide +kernel
theorem dX4_settle_88 : decode cX4_settle 88 = .ok (.ldc2_w 80, 3) := by decide +kernel
theorem dX4_settle_91 : decode cX4_settle 91 = .ok (.lload_n 1, 1) := by decide +kernel
theorem dX4_settle_92 : decode cX4_settle 92 = .ok (.lmul, 1) := by decide +kernel
theorem dX4_settle_93 : decode cX4_settle 93 = .ok (.aload_n 0, 1) := by decide +kernel
theorem dX4_settle_94 : decode cX4_settle 94 = .ok (.getfield 7, 3) := by decide +kernel
theorem dX4_settle_97 : decode cX4_settle 97 = .ok (.i2l, 1) := by decide +kernel
theorem dX4_settle_98 : decode cX4_settle 98 = .ok (.lmul, 1) := by decide +kernel
theorem dX4_settle_99 : decode cX4_settle 99 = .ok (.aload_n 0, 1) := by decide +kernel
theorem dX4_settle_100 : decode cX4_settle 100 = .ok (.getfield 16, 3) := by decide +kernel
theorem dX4_settle_103 : decode cX4_settle 103 = .ok (.invokestatic 64, 3) := by decide +kernel
theorem dX4_settle_106 : decode cX4_settle 106 = .ok (.putfield 82, 3) := by decide +kernel
theorem dX4_settle_109 : decode cX4_settle 109 = .ok (.aload_n 0, 1) := by decide +kernel
theorem dX4_settle_110 : decode cX4_settle 110 = .ok (.aload_n 0, 1) := by decide +kernel
theorem dX4_settle_111 : decode cX4_settle 111 = .ok (.getfield 20, 3) := by decide +kernel
theorem dX4_settle_114 : decode cX4_settle 114 = .ok (.aload_n 0, 1) := by decide +kernel
theorem dX4_settle_115 : decode cX4_settle 115 = .ok (.getfield 7, 3) := by decide +kernel
theorem dX4_settle_118 : decode cX4_settle 118 = .ok (.i2l, 1) := by decide +kernel
theorem dX4_settle_119 : decode cX4_settle 119 = .ok (.invokestatic 64, 3) := by decide +kernel
theorem dX4_settle_122 : decode cX4_settle 122 = .ok (.putfield 85, 3) := by decide +kernel
theorem dX4_settle_125 : decode cX4_settle 125 = .ok (.aload_n 0, 1) := by decide +kernel
theorem dX4_settle_126 : decode cX4_settle 126 = .ok (.ldc2_w 88, 3) := by decide +kernel
theorem dX4_settle_129 : decode cX4_settle 129 = .ok (.aload_n 0, 1) := by decide +kernel
theorem dX4_settle_130 : decode cX4_settle 130 = .ok (.getfield 23, 3) := by decide +kernel
theorem dX4_settle_133 : decode cX4_settle 133 = .ok (.lmul, 1) := by decide +kernel
theorem dX4_settle_134 : decode cX4_settle 134 = .ok (.aload_n 0, 1) := by decide +kernel
theorem dX4_settle_135 : decode cX4_settle 135 = .ok (.getfield 82, 3) := by decide +kernel
theorem dX4_settle_138 : decode cX4_settle 138 = .ok (.lconst 1, 1) := by decide +kernel
theorem dX4_settle_139 : decode cX4_settle 139 = .ok (.ladd, 1) := by decide +kernel
theorem dX4_settle_140 : decode cX4_settle 140 = .ok (.invokestatic 64, 3) := by decide +kernel
theorem dX4_settle_143 : decode cX4_settle 143 = .ok (.putfield 90, 3) := by decide +kernel
theorem dX4_settle_146 : decode cX4_settle 146 = .ok (.return_, 1) := by decide +kernel
theorem dX4_flightX_0 : decode cX4_flightX 0 = .ok (.aload_n 0, 1) := by decide +kernel
theorem dX4_flightX_1 : decode cX4_flightX 1 = .ok (.getfield 32, 3) := by decide +kernel
theorem dX4_flightX_4 : decode cX4_flightX 4 = .ok (.aload_n 0, 1) := by decide +kernel
theorem dX4_flightX_5 : decode cX4_flightX 5 = .ok (.getfield 26, 3) := by decide +kernel
theorem dX4_flightX_8 : decode cX4_flightX 8 = .ok (.lsub, 1) := by decide +kernel
theorem dX4_flightX_9 : decode cX4_flightX 9 = .ok (.lreturn, 1) := by decide +kernel
theorem dX4_flightY_0 : decode cX4_flightY 0 = .ok (.aload_n 0, 1) := by decide +kernel
theorem dX4_flightY_1 : decode cX4_flightY 1 = .ok (.getfield 35, 3) := by decide +kernel
theorem dX4_flightY_4 : decode cX4_flightY 4 = .ok (.aload_n 0, 1) := by decide +kernel
theorem dX4_flightY_5 : decode cX4_flightY 5 = .ok (.getfield 29, 3) := by decide +kernel
theorem dX4_flightY_8 : decode cX4_flightY 8 = .ok (.lsub, 1) := by decide +kernel
theorem dX4_flightY_9 : decode cX4_flightY 9 = .ok (.lreturn, 1) := by decide +kernel
theorem dX4_number_0 : decode cX4_number 0 = .ok (.iload_n 1, 1) := by decide +kernel
theorem dX4_number_1 : decode cX4_number 1 = .ok (.tableswitch 79 0 6 #[43, 49, 54, 59, 64, 69, 74], 43) := by decide +kernel
theorem dX4_number_44 : decode cX4_number 44 = .ok (.aload_n 0, 1) := by decide +kernel
theorem dX4_number_45 : decode cX4_number 45 = .ok (.getfield 7, 3) := by decide +kernel
theorem dX4_number_48 : decode cX4_number 48 = .ok (.i2l, 1) := by decide +kernel
theorem dX4_number_49 : decode cX4_number 49 = .ok (.lreturn, 1) := by decide +kernel
theorem dX4_number_50 : decode cX4_number 50 = .ok (.aload_n 0, 1) := by decide +kernel
theorem dX4_number_51 : decode cX4_number 51 = .ok (.getfield 26, 3) := by decide +kernel
theorem dX4_number_54 : decode cX4_number 54 = .ok (.lreturn, 1) := by decide +kernel
theorem dX4_number_55 : decode cX4_number 55 = .ok (.aload_n 0, 1) := by decide +kernel
theorem dX4_number_56 : decode cX4_number 56 = .ok (.getfield 29, 3) := by decide +kernel
theorem dX4_number_59 : decode cX4_number 59 = .ok (.lreturn, 1) := by decide +kernel
theorem dX4_number_60 : decode cX4_number 60 = .ok (.aload_n 0, 1) := by decide +kernel
theorem dX4_number_61 : decode cX4_number 61 = .ok (.getfield 32, 3) := by decide +kernel
theorem dX4_number_64 : decode cX4_number 64 = .ok (.lreturn, 1) := by decide +kernel
theorem dX4_number_65 : decode cX4_number 65 = .ok (.aload_n 0, 1) := by decide +kernel
theorem dX4_number_66 : decode cX4_number 66 = .ok (.getfield 35, 3) := by decide +kernel
theorem dX4_number_69 : decode cX4_number 69 = .ok (.lreturn, 1) := by decide +kernel
theorem dX4_number_70 : decode cX4_number 70 = .ok (.aload_n 0, 1) := by decide +kernel
theorem dX4_number_71 : decode cX4_number 71 = .ok (.getfield 82, 3) := by decide +kernel
theorem dX4_number_74 : decode cX4_number 74 = .ok (.lreturn, 1) := by decide +kernel
theorem dX4_number_75 : decode cX4_number 75 = .ok (.aload_n 0, 1) := by decide +kernel
theorem dX4_number_76 : decode cX4_number 76 = .ok (.getfield 85, 3) := by decide +kernel
theorem dX4_number_79 : decode cX4_number 79 = .ok (.lreturn, 1) := by decide +kernel
theorem dX4_number_80 : decode cX4_number 80 = .ok (.aload_n 0, 1) := by decide +kernel
theorem dX4_number_81 : decode cX4_number 81 = .ok (.getfield 90, 3) := by decide +kernel
theorem dX4_number_84 : decode cX4_number 84 = .ok (.lreturn, 1) := by decide +kernel
theorem dX6_init_0 : decode cX6_init 0 = .ok (.aload_n 0, 1) := by decide +kernel
theorem dX6_init_1 : decode cX6_init 1 = .ok (.invokespecial 3, 3) := by decide +kernel
theorem dX6_init_4 : decode cX6_init 4 = .ok (.aload_n 0, 1) := by decide +kernel
theorem dX6_init_5 : decode cX6_init 5 = .ok (.iconst (-1), 1) := by decide +kernel
theorem dX6_init_6 : decode cX6_init 6 = .ok (.putfield 9, 3) := by decide +kernel
theorem dX6_init_9 : decode cX6_init 9 = .ok (.aload_n 0, 1) := by decide +kernel
theorem dX6_init_10 : decode cX6_init 10 = .ok (.aload_n 1, 1) := by decide +kernel
theorem dX6_init_11 : decode cX6_init 11 = .ok (.putfield 15, 3) := by decide +kernel
theorem dX6_init_14 : decode cX6_init 14 = .ok (.aload_n 0, 1) := by decide +kernel
theorem dX6_init_15 : decode cX6_init 15 = .ok (.iload_n 2, 1) := by decide +kernel
theorem dX6_init_16 : decode cX6_init 16 = .ok (.putfield 19, 3) := by decide +kernel
theorem dX6_init_19 : decode cX6_init 19 = .ok (.aload_n 0, 1) := by decide +kernel
theorem dX6_init_20 : decode cX6_init 20 = .ok (.iload_n 3, 1) := by decide +kernel
theorem dX6_init_21 : decode cX6_init 21 = .ok (.putfield 22, 3) := by decide +kernel
theorem dX6_init_24 : decode cX6_init 24 = .ok (.aload_n 0, 1) := by decide +kernel
theorem dX6_init_25 : decode cX6_init 25 = .ok (.iload 4, 2) := by decide +kernel
theorem dX6_init_27 : decode cX6_init 27 = .ok (.putfield 25, 3) := by decide +kernel
theorem dX6_init_30 : decode cX6_init 30 = .ok (.aload_n 0, 1) := by decide +kernel
theorem dX6_init_31 : decode cX6_init 31 = .ok (.iload 5, 2) := by decide +kernel
theorem dX6_init_33 : decode cX6_init 33 = .ok (.putfield 28, 3) := by decide +kernel
theorem dX6_init_36 : decode cX6_init 36 = .ok (.return_, 1) := by decide +kernel
theorem dX6_counts_0 : decode cX6_counts 0 = .ok (.aload_n 0, 1) := by decide +kernel
theorem dX6_counts_1 : decode cX6_counts 1 = .ok (.getfield 25, 3) := by decide +kernel
theorem dX6_counts_4 : decode cX6_counts 4 = .ok (.bipush 30, 2) := by decide +kernel
theorem dX6_counts_6 : decode cX6_counts 6 = .ok (.if_icmp .gt 16, 3) := by decide +kernel
theorem dX6_counts_9 : decode cX6_counts 9 = .ok (.aload_n 0, 1) := by decide +kernel
theorem dX6_counts_10 : decode cX6_counts 10 = .ok (.getfield 28, 3) := by decide +kernel
theorem dX6_counts_13 : decode cX6_counts 13 = .ok (.bipush 50, 2) := by decide +kernel
theorem dX6_counts_15 : decode cX6_counts 15 = .ok (.if_icmp .lt 7, 3) := by decide +kernel
theorem dX6_counts_18 : decode cX6_counts 18 = .ok (.iconst 1, 1) := by decide +kernel
theorem dX6_counts_19 : decode cX6_counts 19 = .ok (.goto 4, 3) := by decide +kernel
theorem dX6_counts_22 : decode cX6_counts 22 = .ok (.iconst 0, 1) := by decide +kernel
theorem dX6_counts_23 : decode cX6_counts 23 = .ok (.ireturn, 1) := by decide +kernel
theorem dX6_rightSecond_0 : decode cX6_rightSecond 0 = .ok (.aload_n 0, 1) := by decide +kernel
theorem dX6_rightSecond_1 : decode cX6_rightSecond 1 = .ok (.getfield 22, 3) := by decide +kernel
theorem dX6_rightSecond_4 : decode cX6_rightSecond 4 = .ok (.aload_n 0, 1) := by decide +kernel
theorem dX6_rightSecond_5 : decode cX6_rightSecond 5 = .ok (.getfield 15, 3) := by decide +kernel
theorem dX6_rightSecond_8 : decode cX6_rightSecond 8 = .ok (.getfield 31, 3) := by decide +kernel
theorem dX6_rightSecond_11 : decode cX6_rightSecond 11 = .ok (.isub, 1) := by decide +kernel
theorem dX6_rightSecond_12 : decode cX6_rightSecond 12 = .ok (.ireturn, 1) := by decide +kernel
theorem dX6_mayJoin_0 : decode cX6_mayJoin 0 = .ok (.aload_n 0, 1) := by decide +kernel
theorem dX6_mayJoin_1 : decode cX6_mayJoin 1 = .ok (.getfield 19, 3) := by decide +kernel
theorem dX6_mayJoin_4 : decode cX6_mayJoin 4 = .ok (.aload_n 1, 1) := by decide +kernel
theorem dX6_mayJoin_5 : decode cX6_mayJoin 5 = .ok (.getfield 19, 3) := by decide +kernel
theorem dX6_mayJoin_8 : decode cX6_mayJoin 8 = .ok (.if_icmp .ne 48, 3) := by decide +kernel
theorem dX6_mayJoin_11 : decode cX6_mayJoin 11 = .ok (.aload_n 0, 1) := by decide +kernel
theorem dX6_mayJoin_12 : decode cX6_mayJoin 12 = .ok (.getfield 15, 3) := by decide +kernel
theorem dX6_mayJoin_15 : decode cX6_mayJoin 15 = .ok (.aload_n 1, 1) := by decide +kernel
theorem dX6_mayJoin_16 : decode cX6_mayJoin 16 = .ok (.getfield 15, 3) := by decide +kernel
theorem dX6_mayJoin_19 : decode cX6_mayJoin 19 = .ok (.if_acmp .eq 37, 3) := by decide +kernel
theorem dX6_mayJoin_22 : decode cX6_mayJoin 22 = .ok (.aload_n 0, 1) := by decide +kernel
theorem dX6_mayJoin_23 : decode cX6_mayJoin 23 = .ok (.invokevirtual 36, 3) := by decide +kernel
theorem dX6_mayJoin_26 : decode cX6_mayJoin 26 = .ok (.ifCond .eq 30, 3) := by decide +kernel
theorem dX6_mayJoin_29 : decode cX6_mayJoin 29 = .ok (.aload_n 1, 1) := by decide +kernel
theorem dX6_mayJoin_30 : decode cX6_mayJoin 30 = .ok (.invokevirtual 36, 3) := by decide +kernel
theorem dX6_mayJoin_33 : decode cX6_mayJoin 33 = .ok (.ifCond .eq 23, 3) := by decide +kernel
theorem dX6_mayJoin_36 : decode cX6_mayJoin 36 = .ok (.aload_n 0, 1) := by decide +kernel
theorem dX6_mayJoin_37 : decode cX6_mayJoin 37 = .ok (.invokevirtual 40, 3) := by decide +kernel
theorem dX6_mayJoin_40 : decode cX6_mayJoin 40 = .ok (.aload_n 1, 1) := by decide +kernel
theorem dX6_mayJoin_41 : decode cX6_mayJoin 41 = .ok (.invokevirtual 40, 3) := by decide +kernel
theorem dX6_mayJoin_44 : decode cX6_mayJoin 44 = .ok (.isub, 1) := by decide +kernel
theorem dX6_mayJoin_45 : decode cX6_mayJoin 45 = .ok (.invokestatic 44, 3) := by decide +kernel
theorem dX6_mayJoin_48 : decode cX6_mayJoin 48 = .ok (.iconst 5, 1) := by decide +kernel
theorem dX6_mayJoin_49 : decode cX6_mayJoin 49 = .ok (.if_icmp .gt 7, 3) := by decide +kernel
theorem dX6_mayJoin_52 : decode cX6_mayJoin 52 = .ok (.iconst 1, 1) := by decide +kernel
theorem dX6_mayJoin_53 : decode cX6_mayJoin 53 = .ok (.goto 4, 3) := by decide +kernel
theorem dX6_mayJoin_56 : decode cX6_mayJoin 56 = .ok (.iconst 0, 1) := by decide +kernel
theorem dX6_mayJoin_57 : decode cX6_mayJoin 57 = .ok (.ireturn, 1) := by decide +kernel
theorem dX7_init_0 : decode cX7_init 0 = .ok (.aload_n 0, 1) := by decide +kernel
theorem dX7_init_1 : decode cX7_init 1 = .ok (.invokespecial 3, 3) := by decide +kernel
theorem dX7_init_4 : decode cX7_init 4 = .ok (.aload_n 0, 1) := by decide +kernel
theorem dX7_init_5 : decode cX7_init 5 = .ok (.iconst 0, 1) := by decide +kernel
theorem dX7_init_6 : decode cX7_init 6 = .ok (.putfield 9, 3) := by decide +kernel
theorem dX7_init_9 : decode cX7_init 9 = .ok (.aload_n 0, 1) := by decide +kernel
theorem dX7_init_10 : decode cX7_init 10 = .ok (.iconst (-1), 1) := by decide +kernel
theorem dX7_init_11 : decode cX7_init 11 = .ok (.putfield 15, 3) := by decide +kernel
theorem dX7_init_14 : decode cX7_init 14 = .ok (.aload_n 0, 1) := by decide +kernel
theorem dX7_init_15 : decode cX7_init 15 = .ok (.iconst (-1), 1) := by decide +kernel
theorem dX7_init_16 : decode cX7_init 16 = .ok (.putfield 18, 3) := by decide +kernel
theorem dX7_init_19 : decode cX7_init 19 = .ok (.aload_n 0, 1) := by decide +kernel
theorem dX7_init_20 : decode cX7_init 20 = .ok (.iconst (-1), 1) := by decide +kernel
theorem dX7_init_21 : decode cX7_init 21 = .ok (.putfield 21, 3) := by decide +kernel
theorem dX7_init_24 : decode cX7_init 24 = .ok (.aload_n 0, 1) := by decide +kernel
theorem dX7_init_25 : decode cX7_init 25 = .ok (.iload_n 1, 1) := by decide +kernel
theorem dX7_init_26 : decode cX7_init 26 = .ok (.putfield 24, 3) := by decide +kernel
theorem dX7_init_29 : decode cX7_init 29 = .ok (.aload_n 0, 1) := by decide +kernel
theorem dX7_init_30 : decode cX7_init 30 = .ok (.iload_n 2, 1) := by decide +kernel
theorem dX7_init_31 : decode cX7_init 31 = .ok (.putfield 27, 3) := by decide +kernel
theorem dX7_init_34 : decode cX7_init 34 = .ok (.aload_n 0, 1) := by decide +kernel
theorem dX7_init_35 : decode cX7_init 35 = .ok (.iload_n 3, 1) := by decide +kernel
theorem dX7_init_36 : decode cX7_init 36 = .ok (.putfield 30, 3) := by decide +kernel
theorem dX7_init_39 : decode cX7_init 39 = .ok (.aload_n 0, 1) := by decide +kernel
theorem dX7_init_40 : decode cX7_init 40 = .ok (.iload 4, 2) := by decide +kernel
theorem dX7_init_42 : decode cX7_init 42 = .ok (.putfield 33, 3) := by decide +kernel
theorem dX7_init_45 : decode cX7_init 45 = .ok (.aload_n 0, 1) := by decide +kernel
theorem dX7_init_46 : decode cX7_init 46 = .ok (.iload 5, 2) := by decide +kernel
theorem dX7_init_48 : decode cX7_init 48 = .ok (.putfield 36, 3) := by decide +kernel
theorem dX7_init_51 : decode cX7_init 51 = .ok (.aload_n 0, 1) := by decide +kernel
theorem dX7_init_52 : decode cX7_init 52 = .ok (.iload 6, 2) := by decide +kernel
theorem dX7_init_54 : decode cX7_init 54 = .ok (.putfield 39, 3) := by decide +kernel
theorem dX7_init_57 : decode cX7_init 57 = .ok (.aload_n 0, 1) := by decide +kernel
theorem dX7_init_58 : decode cX7_init 58 = .ok (.aload 7, 2) := by decide +kernel
theorem dX7_init_60 : decode cX7_init 60 = .ok (.putfield 42, 3) := by decide +kernel
theorem dX7_init_63 : decode cX7_init 63 = .ok (.return_, 1) := by decide +kernel
theorem dX8_init_0 : decode cX8_init 0 = .ok (.aload_n 0, 1) := by decide +kernel
theorem dX8_init_1 : decode cX8_init 1 = .ok (.invokespecial 1, 3) := by decide +kernel
theorem dX8_init_4 : decode cX8_init 4 = .ok (.aload_n 0, 1) := by decide +kernel
theorem dX8_init_5 : decode cX8_init 5 = .ok (.iload_n 1, 1) := by decide +kernel
theorem dX8_init_6 : decode cX8_init 6 = .ok (.putfield 7, 3) := by decide +kernel
theorem dX8_init_9 : decode cX8_init 9 = .ok (.aload_n 0, 1) := by decide +kernel
theorem dX8_init_10 : decode cX8_init 10 = .ok (.iload_n 2, 1) := by decide +kernel
theorem dX8_init_11 : decode cX8_init 11 = .ok (.putfield 13, 3) := by decide +kernel
theorem dX8_init_14 : decode cX8_init 14 = .ok (.aload_n 0, 1) := by decide +kernel
theorem dX8_init_15 : decode cX8_init 15 = .ok (.iload_n 3, 1) := by decide +kernel
theorem dX8_init_16 : decode cX8_init 16 = .ok (.putfield 16, 3) := by decide +kernel
theorem dX8_init_19 : decode cX8_init 19 = .ok (.aload_n 0, 1) := by decide +kernel
theorem dX8_init_20 : decode cX8_init 20 = .ok (.iload 4, 2) := by decide +kernel
theorem dX8_init_22 : decode cX8_init 22 = .ok (.putfield 19, 3) := by decide +kernel
theorem dX8_init_25 : decode cX8_init 25 = .ok (.aload_n 0, 1) := by decide +kernel
theorem dX8_init_26 : decode cX8_init 26 = .ok (.iload 5, 2) := by decide +kernel
theorem dX8_init_28 : decode cX8_init 28 = .ok (.putfield 22, 3) := by decide +kernel
theorem dX8_init_31 : decode cX8_init 31 = .ok (.return_, 1) := by decide +kernel
theorem dX8_isThrough_0 : decode cX8_isThrough 0 = .ok (.aload_n 0, 1) := by decide +kernel
theorem dX8_isThrough_1 : decode cX8_isThrough 1 = .ok (.getfield 7, 3) := by decide +kernel
theorem dX8_isThrough_4 : decode cX8_isThrough 4 = .ok (.iload_n 1, 1) := by decide +kernel
theorem dX8_isThrough_5 : decode cX8_isThrough 5 = .ok (.if_icmp .ne 23, 3) := by decide +kernel
theorem dX8_isThrough_8 : decode cX8_isThrough 8 = .ok (.aload_n 0, 1) := by decide +kernel
theorem dX8_isThrough_9 : decode cX8_isThrough 9 = .ok (.getfield 13, 3) := by decide +kernel
theorem dX8_isThrough_12 : decode cX8_isThrough 12 = .ok (.iload_n 2, 1) := by decide +kernel
theorem dX8_isThrough_13 : decode cX8_isThrough 13 = .ok (.if_icmp .ne 15, 3) := by decide +kernel
theorem dX8_isThrough_16 : decode cX8_isThrough 16 = .ok (.aload_n 0, 1) := by decide +kernel
theorem dX8_isThrough_17 : decode cX8_isThrough 17 = .ok (.getfield 16, 3) := by decide +kernel
theorem dX8_isThrough_20 : decode cX8_isThrough 20 = .ok (.iload_n 3, 1) := by decide +kernel
theorem dX8_isThrough_21 : decode cX8_isThrough 21 = .ok (.if_icmp .ne 7, 3) := by decide +kernel
theorem dX8_isThrough_24 : decode cX8_isThrough 24 = .ok (.iconst 1, 1) := by decide +kernel
theorem dX8_isThrough_25 : decode cX8_isThrough 25 = .ok (.goto 4, 3) := by decide +kernel
theorem dX8_isThrough_28 : decode cX8_isThrough 28 = .ok (.iconst 0, 1) := by decide +kernel
theorem dX8_isThrough_29 : decode cX8_isThrough 29 = .ok (.ireturn, 1) := by decide +kernel
theorem dX9_init_0 : decode cX9_init 0 = .ok (.aload_n 0, 1) := by decide +kernel
theorem dX9_init_1 : decode cX9_init 1 = .ok (.invokespecial 1, 3) := by decide +kernel
theorem dX9_init_4 : decode cX9_init 4 = .ok (.aload_n 0, 1) := by decide +kernel
theorem dX9_init_5 : decode cX9_init 5 = .ok (.iload_n 1, 1) := by decide +kernel
theorem dX9_init_6 : decode cX9_init 6 = .ok (.putfield 7, 3) := by decide +kernel
theorem dX9_init_9 : decode cX9_init 9 = .ok (.return_, 1) := by decide +kernel
theorem dX10_init_0 : decode cX10_init 0 = .ok (.aload_n 0, 1) := by decide +kernel
theorem dX10_init_1 : decode cX10_init 1 = .ok (.invokespecial 1, 3) := by decide +kernel
theorem dX10_init_4 : decode cX10_init 4 = .ok (.aload_n 0, 1) := by decide +kernel
theorem dX10_init_5 : decode cX10_init 5 = .ok (.new 7, 3) := by decide +kernel
theorem dX10_init_8 : decode cX10_init 8 = .ok (.dup, 1) := by decide +kernel
theorem dX10_init_9 : decode cX10_init 9 = .ok (.invokespecial 9, 3) := by decide +kernel
theorem dX10_init_12 : decode cX10_init 12 = .ok (.putfield 10, 3) := by decide +kernel
theorem dX10_init_15 : decode cX10_init 15 = .ok (.aload_n 0, 1) := by decide +kernel
theorem dX10_init_16 : decode cX10_init 16 = .ok (.new 7, 3) := by decide +kernel
theorem dX10_init_19 : decode cX10_init 19 = .ok (.dup, 1) := by decide +kernel
theorem dX10_init_20 : decode cX10_init 20 = .ok (.invokespecial 9, 3) := by decide +kernel
theorem dX10_init_23 : decode cX10_init 23 = .ok (.putfield 16, 3) := by decide +kernel
theorem dX10_init_26 : decode cX10_init 26 = .ok (.aload_n 0, 1) := by decide +kernel
theorem dX10_init_27 : decode cX10_init 27 = .ok (.new 7, 3) := by decide +kernel
theorem dX10_init_30 : decode cX10_init 30 = .ok (.dup, 1) := by decide +kernel
theorem dX10_init_31 : decode cX10_init 31 = .ok (.invokespecial 9, 3) := by decide +kernel
theorem dX10_init_34 : decode cX10_init 34 = .ok (.putfield 19, 3) := by decide +kernel
theorem dX10_init_37 : decode cX10_init 37 = .ok (.aload_n 0, 1) := by decide +kernel
theorem dX10_init_38 : decode cX10_init 38 = .ok (.aconst_null, 1) := by decide +kernel
theorem dX10_init_39 : decode cX10_init 39 = .ok (.putfield 22, 3) := by decide +kernel
theorem dX10_init_42 : decode cX10_init 42 = .ok (.aload_n 0, 1) := by decide +kernel
theorem dX10_init_43 : decode cX10_init 43 = .ok (.new 7, 3) := by decide +kernel
theorem dX10_init_46 : decode cX10_init 46 = .ok (.dup, 1) := by decide +kernel
theorem dX10_init_47 : decode cX10_init 47 = .ok (.invokespecial 9, 3) := by decide +kernel
theorem dX10_init_50 : decode cX10_init 50 = .ok (.putfield 26, 3) := by decide +kernel
theorem dX10_init_53 : decode cX10_init 53 = .ok (.aload_n 0, 1) := by decide +kernel
theorem dX10_init_54 : decode cX10_init 54 = .ok (.new 29, 3) := by decide +kernel
theorem dX10_init_57 : decode cX10_init 57 = .ok (.dup, 1) := by decide +kernel
theorem dX10_init_58 : decode cX10_init 58 = .ok (.invokespecial 31, 3) := by decide +kernel
theorem dX10_init_61 : decode cX10_init 61 = .ok (.putfield 32, 3) := by decide +kernel
theorem dX10_init_64 : decode cX10_init 64 = .ok (.aload_n 0, 1) := by decide +kernel
theorem dX10_init_65 : decode cX10_init 65 = .ok (.new 29, 3) := by decide +kernel
theorem dX10_init_68 : decode cX10_init 68 = .ok (.dup, 1) := by decide +kernel
theorem dX10_init_69 : decode cX10_init 69 = .ok (.invokespecial 31, 3) := by decide +kernel
theorem dX10_init_72 : decode cX10_init 72 = .ok (.putfield 36, 3) := by decide +kernel
theorem dX10_init_75 : decode cX10_init 75 = .ok (.aload_n 0, 1) := by decide +kernel
theorem dX10_init_76 : decode cX10_init 76 = .ok (.new 7, 3) := by decide +kernel
theorem dX10_init_79 : decode cX10_init 79 = .ok (.dup, 1) := by decide +kernel
theorem dX10_init_80 : decode cX10_init 80 = .ok (.invokespecial 9, 3) := by decide +kernel
theorem dX10_init_83 : decode cX10_init 83 = .ok (.putfield 39, 3) := by decide +kernel
theorem dX10_init_86 : decode cX10_init 86 = .ok (.aload_n 0, 1) := by decide +kernel
theorem dX10_init_87 : decode cX10_init 87 = .ok (.new 7, 3) := by decide +kernel
theorem dX10_init_90 : decode cX10_init 90 = .ok (.dup, 1) := by decide +kernel
theorem dX10_init_91 : decode cX10_init 91 = .ok (.invokespecial 9, 3) := by decide +kernel
theorem dX10_init_94 : decode cX10_init 94 = .ok (.putfield 42, 3) := by decide +kernel
theorem dX10_init_97 : decode cX10_init 97 = .ok (.aload_n 0, 1) := by decide +kernel
theorem dX10_init_98 : decode cX10_init 98 = .ok (.new 45, 3) := by decide +kernel
theorem dX10_init_101 : decode cX10_init 101 = .ok (.dup, 1) := by decide +kernel
theorem dX10_init_102 : decode cX10_init 102 = .ok (.invokespecial 47, 3) := by decide +kernel
theorem dX10_init_105 : decode cX10_init 105 = .ok (.putfield 48, 3) := by decide +kernel
theorem dX10_init_108 : decode cX10_init 108 = .ok (.aload_n 0, 1) := by decide +kernel
theorem dX10_init_109 : decode cX10_init 109 = .ok (.new 7, 3) := by decide +kernel
theorem dX10_init_112 : decode cX10_init 112 = .ok (.dup, 1) := by decide +kernel
theorem dX10_init_113 : decode cX10_init 113 = .ok (.invokespecial 9, 3) := by decide +kernel
theorem dX10_init_116 : decode cX10_init 116 = .ok (.putfield 52, 3) := by decide +kernel
theorem dX10_init_119 : decode cX10_init 119 = .ok (.aload_n 0, 1) := by decide +kernel
theorem dX10_init_120 : decode cX10_init 120 = .ok (.bipush 10, 2) := by decide +kernel
theorem dX10_init_122 : decode cX10_init 122 = .ok (.anewarray 55, 3) := by decide +kernel
theorem dX10_init_125 : decode cX10_init 125 = .ok (.putfield 57, 3) := by decide +kernel
theorem dX10_init_128 : decode cX10_init 128 = .ok (.aload_n 0, 1) := by decide +kernel
theorem dX10_init_129 : decode cX10_init 129 = .ok (.iconst 4, 1) := by decide +kernel
theorem dX10_init_130 : decode cX10_init 130 = .ok (.newarray .int, 2) := by decide +kernel
theorem dX10_init_132 : decode cX10_init 132 = .ok (.putfield 61, 3) := by decide +kernel
theorem dX10_init_135 : decode cX10_init 135 = .ok (.aload_n 0, 1) := by decide +kernel
theorem dX10_init_136 : decode cX10_init 136 = .ok (.bipush 10, 2) := by decide +kernel
theorem dX10_init_138 : decode cX10_init 138 = .ok (.newarray .int, 2) := by decide +kernel
theorem dX10_init_140 : decode cX10_init 140 = .ok (.putfield 65, 3) := by decide +kernel
theorem dX10_init_143 : decode cX10_init 143 = .ok (.iconst 0, 1) := by decide +kernel
theorem dX10_init_144 : decode cX10_init 144 = .ok (.istore_n 1, 1) := by decide +kernel
theorem dX10_init_145 : decode cX10_init 145 = .ok (.iload_n 1, 1) := by decide +kernel
theorem dX10_init_146 : decode cX10_init 146 = .ok (.bipush 60, 2) := by decide +kernel
theorem dX10_init_148 : decode cX10_init 148 = .ok (.if_icmp .ge 26, 3) := by decide +kernel
theorem dX10_init_151 : decode cX10_init 151 = .ok (.aload_n 0, 1) := by decide +kernel
theorem dX10_init_152 : decode cX10_init 152 = .ok (.getfield 26, 3) := by decide +kernel
theorem dX10_init_155 : decode cX10_init 155 = .ok (.new 68, 3) := by decide +kernel
theorem dX10_init_158 : decode cX10_init 158 = .ok (.dup, 1) := by decide +kernel
theorem dX10_init_159 : decode cX10_init 159 = .ok (.invokespecial 70, 3) := by decide +kernel
theorem dX10_init_162 : decode cX10_init 162 = .ok (.invokeinterface 71 2, 5) := by decide +kernel
theorem dX10_init_167 : decode cX10_init 167 = .ok (.pop, 1) := by decide +kernel
theorem dX10_init_168 : decode cX10_init 168 = .ok (.iinc 1 1, 3) := by decide +kernel
theorem dX10_init_171 : decode cX10_init 171 = .ok (.goto (-26), 3) := by decide +kernel
theorem dX10_init_174 : decode cX10_init 174 = .ok (.return_, 1) := by decide +kernel
theorem dX10_camera_0 : decode cX10_camera 0 = .ok (.iload_n 1, 1) := by decide +kernel
theorem dX10_camera_1 : decode cX10_camera 1 = .ok (.iload_n 2, 1) := by decide +kernel
theorem dX10_camera_2 : decode cX10_camera 2 = .ok (.invokestatic 77, 3) := by decide +kernel
theorem dX10_camera_5 : decode cX10_camera 5 = .ok (.iload_n 3, 1) := by decide +kernel
theorem dX10_camera_6 : decode cX10_camera 6 = .ok (.bipush (-99), 2) := by decide +kernel
theorem dX10_camera_8 : decode cX10_camera 8 = .ok (.bipush 99, 2) := by decide +kernel
theorem dX10_camera_10 : decode cX10_camera 10 = .ok (.invokestatic 81, 3) := by decide +kernel
theorem dX10_camera_13 : decode cX10_camera 13 = .ok (.aload_n 0, 1) := by decide +kernel
theorem dX10_camera_14 : decode cX10_camera 14 = .ok (.getfield 10, 3) := by decide +kernel
theorem dX10_camera_17 : decode cX10_camera 17 = .ok (.invokeinterface 85 1, 5) := by decide +kernel
theorem dX10_camera_22 : decode cX10_camera 22 = .ok (.bipush 10, 2) := by decide +kernel
theorem dX10_camera_24 : decode cX10_camera 24 = .ok (.if_icmp .lt 13, 3) := by decide +kernel
theorem dX10_camera_27 : decode cX10_camera 27 = .ok (.new 89, 3) := by decide +kernel
theorem dX10_camera_30 : decode cX10_camera 30 = .ok (.dup, 1) := by decide +kernel
theorem dX10_camera_31 : decode cX10_camera 31 = .ok (.ldc 91, 2) := by decide +kernel
theorem dX10_camera_33 : decode cX10_camera 33 = .ok (.invokespecial 93, 3) := by decide +kernel
theorem dX10_camera_36 : decode cX10_camera 36 = .ok (.athrow, 1) := by decide +kernel
theorem dX10_camera_37 : decode cX10_camera 37 = .ok (.aload_n 0, 1) := by decide +kernel
theorem dX10_camera_38 : decode cX10_camera 38 = .ok (.getfield 10, 3) := by decide +kernel
theorem dX10_camera_41 : decode cX10_camera 41 = .ok (.new 96, 3) := by decide +kernel
theorem dX10_camera_44 : decode cX10_camera 44 = .ok (.dup, 1) := by decide +kernel
theorem dX10_camera_45 : decode cX10_camera 45 = .ok (.iload_n 1, 1) := by decide +kernel
theorem dX10_camera_46 : decode cX10_camera 46 = .ok (.iload_n 2, 1) := by decide +kernel
theorem dX10_camera_47 : decode cX10_camera 47 = .ok (.iload_n 3, 1) := by decide +kernel
theorem dX10_camera_48 : decode cX10_camera 48 = .ok (.invokespecial 98, 3) := by decide +kernel
theorem dX10_camera_51 : decode cX10_camera 51 = .ok (.invokeinterface 71 2, 5) := by decide +kernel
theorem dX10_camera_56 : decode cX10_camera 56 = .ok (.pop, 1) := by decide +kernel
theorem dX10_camera_57 : decode cX10_camera 57 = .ok (.aload_n 0, 1) := by decide +kernel
theorem dX10_camera_58 : decode cX10_camera 58 = .ok (.getfield 10, 3) := by decide +kernel
theorem dX10_camera_61 : decode cX10_camera 61 = .ok (.invokeinterface 85 1, 5) := by decide +kernel
theorem dX10_camera_66 : decode cX10_camera 66 = .ok (.iconst 1, 1) := by decide +kernel
theorem dX10_camera_67 : decode cX10_camera 67 = .ok (.isub, 1) := by decide +kernel
theorem dX10_camera_68 : decode cX10_camera 68 = .ok (.ireturn, 1) := by decide +kernel
theorem dX10_clock_0 : decode cX10_clock 0 = .ok (.aload_n 0, 1) := by decide +kernel
theorem dX10_clock_1 : decode cX10_clock 1 = .ok (.iload_n 1, 1) := by decide +kernel
theorem dX10_clock_2 : decode cX10_clock 2 = .ok (.invokevirtual 100, 3) := by decide +kernel
theorem dX10_clock_5 : decode cX10_clock 5 = .ok (.astore_n 3, 1) := by decide +kernel
theorem dX10_clock_6 : decode cX10_clock 6 = .ok (.iload_n 2, 1) := by decide +kernel
theorem dX10_clock_7 : decode cX10_clock 7 = .ok (.bipush (-99), 2) := by decide +kernel
theorem dX10_clock_9 : decode cX10_clock 9 = .ok (.bipush 99, 2) := by decide +kernel
theorem dX10_clock_11 : decode cX10_clock 11 = .ok (.invokestatic 81, 3) := by decide +kernel
theorem dX10_clock_14 : decode cX10_clock 14 = .ok (.aload_n 3, 1) := by decide +kernel
theorem dX10_clock_15 : decode cX10_clock 15 = .ok (.getfield 104, 3) := by decide +kernel
theorem dX10_clock_18 : decode cX10_clock 18 = .ok (.istore 4, 2) := by decide +kernel
theorem dX10_clock_20 : decode cX10_clock 20 = .ok (.aload_n 3, 1) := by decide +kernel
theorem dX10_clock_21 : decode cX10_clock 21 = .ok (.iload_n 2, 1) := by decide +kernel
theorem dX10_clock_22 : decode cX10_clock 22 = .ok (.putfield 104, 3) := by decide +kernel
theorem dX10_clock_25 : decode cX10_clock 25 = .ok (.aload_n 0, 1) := by decide +kernel
theorem dX10_clock_26 : decode cX10_clock 26 = .ok (.invokevirtual 108, 3) := by decide +kernel
theorem dX10_clock_29 : decode cX10_clock 29 = .ok (.iload 4, 2) := by decide +kernel
theorem dX10_clock_31 : decode cX10_clock 31 = .ok (.ireturn, 1) := by decide +kernel
theorem dX10_begin_0 : decode cX10_begin 0 = .ok (.aload_n 0, 1) := by decide +kernel
theorem dX10_begin_1 : decode cX10_begin 1 = .ok (.iload_n 1, 1) := by decide +kernel
theorem dX10_begin_2 : decode cX10_begin 2 = .ok (.invokevirtual 100, 3) := by decide +kernel
theorem dX10_begin_5 : decode cX10_begin 5 = .ok (.astore 6, 2) := by decide +kernel
theorem dX10_begin_7 : decode cX10_begin 7 = .ok (.iload_n 2, 1) := by decide +kernel
theorem dX10_begin_8 : decode cX10_begin 8 = .ok (.invokestatic 111, 3) := by decide +kernel
theorem dX10_begin_11 : decode cX10_begin 11 = .ok (.iload_n 3, 1) := by decide +kernel
theorem dX10_begin_12 : decode cX10_begin 12 = .ok (.iconst 0, 1) := by decide +kernel
theorem dX10_begin_13 : decode cX10_begin 13 = .ok (.ldc 137, 2) := by decide +kernel
theorem dX10_begin_15 : decode cX10_begin 15 = .ok (.invokestatic 81, 3) := by decide +kernel
theorem dX10_begin_18 : decode cX10_begin 18 = .ok (.iload 4, 2) := by decide +kernel
theorem dX10_begin_20 : decode cX10_begin 20 = .ok (.iconst 1, 1) := by decide +kernel
theorem dX10_begin_21 : decode cX10_begin 21 = .ok (.bipush 60, 2) := by decide +kernel
theorem dX10_begin_23 : decode cX10_begin 23 = .ok (.invokestatic 81, 3) := by decide +kernel
theorem dX10_begin_26 : decode cX10_begin 26 = .ok (.iload 5, 2) := by decide +kernel
theorem dX10_begin_28 : decode cX10_begin 28 = .ok (.iconst 1, 1) := by decide +kernel
theorem dX10_begin_29 : decode cX10_begin 29 = .ok (.sipush 1000, 3) := by decide +kernel
theorem dX10_begin_32 : decode cX10_begin 32 = .ok (.invokestatic 81, 3) := by decide +kernel
theorem dX10_begin_35 : decode cX10_begin 35 = .ok (.aload_n 0, 1) := by decide +kernel
theorem dX10_begin_36 : decode cX10_begin 36 = .ok (.aload 6, 2) := by decide +kernel
theorem dX10_begin_38 : decode cX10_begin 38 = .ok (.iload_n 2, 1) := by decide +kernel
theorem dX10_begin_39 : decode cX10_begin 39 = .ok (.invokevirtual 115, 3) := by decide +kernel
theorem dX10_begin_42 : decode cX10_begin 42 = .ok (.ifCond .eq 13, 3) := by decide +kernel
theorem dX10_begin_45 : decode cX10_begin 45 = .ok (.new 89, 3) := by decide +kernel
theorem dX10_begin_48 : decode cX10_begin 48 = .ok (.dup, 1) := by decide +kernel
theorem dX10_begin_49 : decode cX10_begin 49 = .ok (.ldc 138, 2) := by decide +kernel
theorem dX10_begin_51 : decode cX10_begin 51 = .ok (.invokespecial 93, 3) := by decide +kernel
theorem dX10_begin_54 : decode cX10_begin 54 = .ok (.athrow, 1) := by decide +kernel
theorem dX10_begin_55 : decode cX10_begin 55 = .ok (.aload_n 0, 1) := by decide +kernel
theorem dX10_begin_56 : decode cX10_begin 56 = .ok (.new 140, 3) := by decide +kernel
theorem dX10_begin_59 : decode cX10_begin 59 = .ok (.dup, 1) := by decide +kernel
theorem dX10_begin_60 : decode cX10_begin 60 = .ok (.aload 6, 2) := by decide +kernel
theorem dX10_begin_62 : decode cX10_begin 62 = .ok (.iload_n 2, 1) := by decide +kernel
theorem dX10_begin_63 : decode cX10_begin 63 = .ok (.iload_n 3, 1) := by decide +kernel
theorem dX10_begin_64 : decode cX10_begin 64 = .ok (.iload 4, 2) := by decide +kernel
theorem dX10_begin_66 : decode cX10_begin 66 = .ok (.iload 5, 2) := by decide +kernel
theorem dX10_begin_68 : decode cX10_begin 68 = .ok (.invokespecial 142, 3) := by decide +kernel
theorem dX10_begin_71 : decode cX10_begin 71 = .ok (.putfield 22, 3) := by decide +kernel
theorem dX10_begin_74 : decode cX10_begin 74 = .ok (.return_, 1) := by decide +kernel
theorem dX10_end_0 : decode cX10_end 0 = .ok (.iload_n 1, 1) := by decide +kernel
theorem dX10_end_1 : decode cX10_end 1 = .ok (.iload_n 2, 1) := by decide +kernel
theorem dX10_end_2 : decode cX10_end 2 = .ok (.invokestatic 145, 3) := by decide +kernel
theorem dX10_end_5 : decode cX10_end 5 = .ok (.iload_n 3, 1) := by decide +kernel
theorem dX10_end_6 : decode cX10_end 6 = .ok (.iload 4, 2) := by decide +kernel
theorem dX10_end_8 : decode cX10_end 8 = .ok (.invokestatic 145, 3) := by decide +kernel
theorem dX10_end_11 : decode cX10_end 11 = .ok (.aload_n 0, 1) := by decide +kernel
theorem dX10_end_12 : decode cX10_end 12 = .ok (.getfield 22, 3) := by decide +kernel
theorem dX10_end_15 : decode cX10_end 15 = .ok (.astore 5, 2) := by decide +kernel
theorem dX10_end_17 : decode cX10_end 17 = .ok (.aload 5, 2) := by decide +kernel
theorem dX10_end_19 : decode cX10_end 19 = .ok (.ifnonnull 13, 3) := by decide +kernel
theorem dX10_end_22 : decode cX10_end 22 = .ok (.new 89, 3) := by decide +kernel
theorem dX10_end_25 : decode cX10_end 25 = .ok (.dup, 1) := by decide +kernel
theorem dX10_end_26 : decode cX10_end 26 = .ok (.ldc 148, 2) := by decide +kernel
theorem dX10_end_28 : decode cX10_end 28 = .ok (.invokespecial 93, 3) := by decide +kernel
theorem dX10_end_31 : decode cX10_end 31 = .ok (.athrow, 1) := by decide +kernel
theorem dX10_end_32 : decode cX10_end 32 = .ok (.aload_n 0, 1) := by decide +kernel
theorem dX10_end_33 : decode cX10_end 33 = .ok (.aload 5, 2) := by decide +kernel
theorem dX10_end_35 : decode cX10_end 35 = .ok (.getfield 150, 3) := by decide +kernel
theorem dX10_end_38 : decode cX10_end 38 = .ok (.aload 5, 2) := by decide +kernel
theorem dX10_end_40 : decode cX10_end 40 = .ok (.getfield 154, 3) := by decide +kernel
theorem dX10_end_43 : decode cX10_end 43 = .ok (.invokevirtual 115, 3) := by decide +kernel
theorem dX10_end_46 : decode cX10_end 46 = .ok (.ifCond .eq 13, 3) := by decide +kernel
theorem dX10_end_49 : decode cX10_end 49 = .ok (.new 89, 3) := by decide +kernel
theorem dX10_end_52 : decode cX10_end 52 = .ok (.dup, 1) := by decide +kernel
theorem dX10_end_53 : decode cX10_end 53 = .ok (.ldc 157, 2) := by decide +kernel
theorem dX10_end_55 : decode cX10_end 55 = .ok (.invokespecial 93, 3) := by decide +kernel
theorem dX10_end_58 : decode cX10_end 58 = .ok (.athrow, 1) := by decide +kernel
theorem dX10_end_59 : decode cX10_end 59 = .ok (.aload_n 0, 1) := by decide +kernel
theorem dX10_end_60 : decode cX10_end 60 = .ok (.getfield 19, 3) := by decide +kernel
theorem dX10_end_63 : decode cX10_end 63 = .ok (.invokeinterface 85 1, 5) := by decide +kernel
theorem dX10_end_68 : decode cX10_end 68 = .ok (.bipush 60, 2) := by decide +kernel
theorem dX10_end_70 : decode cX10_end 70 = .ok (.if_icmp .lt 13, 3) := by decide +kernel
theorem dX10_end_73 : decode cX10_end 73 = .ok (.new 89, 3) := by decide +kernel
theorem dX10_end_76 : decode cX10_end 76 = .ok (.dup, 1) := by decide +kernel
theorem dX10_end_77 : decode cX10_end 77 = .ok (.ldc 159, 2) := by decide +kernel
theorem dX10_end_79 : decode cX10_end 79 = .ok (.invokespecial 93, 3) := by decide +kernel
theorem dX10_end_82 : decode cX10_end 82 = .ok (.athrow, 1) := by decide +kernel
theorem dX10_end_83 : decode cX10_end 83 = .ok (.aload 5, 2) := by decide +kernel
theorem dX10_end_85 : decode cX10_end 85 = .ok (.iload_n 1, 1) := by decide +kernel
theorem dX10_end_86 : decode cX10_end 86 = .ok (.putfield 161, 3) := by decide +kernel
theorem dX10_end_89 : decode cX10_end 89 = .ok (.aload 5, 2) := by decide +kernel
theorem dX10_end_91 : decode cX10_end 91 = .ok (.iload_n 2, 1) := by decide +kernel
theorem dX10_end_92 : decode cX10_end 92 = .ok (.putfield 164, 3) := by decide +kernel
theorem dX10_end_95 : decode cX10_end 95 = .ok (.aload 5, 2) := by decide +kernel
theorem dX10_end_97 : decode cX10_end 97 = .ok (.iload_n 3, 1) := by decide +kernel
theorem dX10_end_98 : decode cX10_end 98 = .ok (.putfield 167, 3) := by decide +kernel
theorem dX10_end_101 : decode cX10_end 101 = .ok (.aload 5, 2) := by decide +kernel
theorem dX10_end_103 : decode cX10_end 103 = .ok (.iload 4, 2) := by decide +kernel
theorem dX10_end_105 : decode cX10_end 105 = .ok (.putfield 170, 3) := by decide +kernel
theorem dX10_end_108 : decode cX10_end 108 = .ok (.aload_n 0, 1) := by decide +kernel
theorem dX10_end_109 : decode cX10_end 109 = .ok (.getfield 19, 3) := by decide +kernel
theorem dX10_end_112 : decode cX10_end 112 = .ok (.aload 5, 2) := by decide +kernel
theorem dX10_end_114 : decode cX10_end 114 = .ok (.invokeinterface 71 2, 5) := by decide +kernel
theorem dX10_end_119 : decode cX10_end 119 = .ok (.pop, 1) := by decide +kernel
theorem dX10_end_120 : decode cX10_end 120 = .ok (.aload_n 0, 1) := by decide +kernel
theorem dX10_end_121 : decode cX10_end 121 = .ok (.aconst_null, 1) := by decide +kernel
theorem dX10_end_122 : decode cX10_end 122 = .ok (.putfield 22, 3) := by decide +kernel
theorem dX10_end_125 : decode cX10_end 125 = .ok (.aload_n 0, 1) := by decide +kernel
theorem dX10_end_126 : decode cX10_end 126 = .ok (.invokevirtual 108, 3) := by decide +kernel
theorem dX10_end_129 : decode cX10_end 129 = .ok (.aload_n 0, 1) := by decide +kernel
theorem dX10_end_130 : decode cX10_end 130 = .ok (.getfield 19, 3) := by decide +kernel
theorem dX10_end_133 : decode cX10_end 133 = .ok (.invokeinterface 85 1, 5) := by decide +kernel
theorem dX10_end_138 : decode cX10_end 138 = .ok (.iconst 1, 1) := by decide +kernel
theorem dX10_end_139 : decode cX10_end 139 = .ok (.isub, 1) := by decide +kernel
theorem dX10_end_140 : decode cX10_end 140 = .ok (.ireturn, 1) := by decide +kernel
theorem dX10_fireball_0 : decode cX10_fireball 0 = .ok (.aload_n 0, 1) := by decide +kernel
theorem dX10_fireball_1 : decode cX10_fireball 1 = .ok (.iload_n 1, 1) := by decide +kernel
theorem dX10_fireball_2 : decode cX10_fireball 2 = .ok (.invokevirtual 173, 3) := by decide +kernel
theorem dX10_fireball_5 : decode cX10_fireball 5 = .ok (.getfield 177, 3) := by decide +kernel
theorem dX10_fireball_8 : decode cX10_fireball 8 = .ok (.ireturn, 1) := by decide +kernel
theorem dX10_fireballAnew_0 : decode cX10_fireballAnew 0 = .ok (.aload_n 0, 1) := by decide +kernel
theorem dX10_fireballAnew_1 : decode cX10_fireballAnew 1 = .ok (.iload_n 1, 1) := by decide +kernel
theorem dX10_fireballAnew_2 : decode cX10_fireballAnew 2 = .ok (.invokevirtual 173, 3) := by decide +kernel
theorem dX10_fireballAnew_5 : decode cX10_fireballAnew 5 = .ok (.astore_n 2, 1) := by decide +kernel
theorem dX10_fireballAnew_6 : decode cX10_fireballAnew 6 = .ok (.aload_n 2, 1) := by decide +kernel
theorem dX10_fireballAnew_7 : decode cX10_fireballAnew 7 = .ok (.getfield 180, 3) := by decide +kernel
theorem dX10_fireballAnew_10 : decode cX10_fireballAnew 10 = .ok (.lconst 0, 1) := by decide +kernel
theorem dX10_fireballAnew_11 : decode cX10_fireballAnew 11 = .ok (.lcmp, 1) := by decide +kernel
theorem dX10_fireballAnew_12 : decode cX10_fireballAnew 12 = .ok (.ifCond .ne 5, 3) := by decide +kernel
theorem dX10_fireballAnew_15 : decode cX10_fireballAnew 15 = .ok (.iconst (-1), 1) := by decide +kernel
theorem dX10_fireballAnew_16 : decode cX10_fireballAnew 16 = .ok (.ireturn, 1) := by decide +kernel
theorem dX10_fireballAnew_17 : decode cX10_fireballAnew 17 = .ok (.iconst 0, 1) := by decide +kernel
theorem dX10_fireballAnew_18 : decode cX10_fireballAnew 18 = .ok (.istore_n 3, 1) := by decide +kernel
theorem dX10_fireballAnew_19 : decode cX10_fireballAnew 19 = .ok (.iload_n 3, 1) := by decide +kernel
theorem dX10_fireballAnew_20 : decode cX10_fireballAnew 20 = .ok (.aload_n 0, 1) := by decide +kernel
theorem dX10_fireballAnew_21 : decode cX10_fireballAnew 21 = .ok (.getfield 19, 3) := by decide +kernel
theorem dX10_fireballAnew_24 : decode cX10_fireballAnew 24 = .ok (.invokeinterface 85 1, 5) := by decide +kernel
theorem dX10_fireballAnew_29 : decode cX10_fireballAnew 29 = .ok (.if_icmp .ge 26, 3) := by decide +kernel
theorem dX10_fireballAnew_32 : decode cX10_fireballAnew 32 = .ok (.aload_n 0, 1) := by decide +kernel
theorem dX10_fireballAnew_33 : decode cX10_fireballAnew 33 = .ok (.getfield 19, 3) := by decide +kernel
theorem dX10_fireballAnew_36 : decode cX10_fireballAnew 36 = .ok (.iload_n 3, 1) := by decide +kernel
theorem dX10_fireballAnew_37 : decode cX10_fireballAnew 37 = .ok (.invokeinterface 184 2, 5) := by decide +kernel
theorem dX10_fireballAnew_42 : decode cX10_fireballAnew 42 = .ok (.checkcast 140, 3) := by decide +kernel
theorem dX10_fireballAnew_45 : decode cX10_fireballAnew 45 = .ok (.iload_n 3, 1) := by decide +kernel
theorem dX10_fireballAnew_46 : decode cX10_fireballAnew 46 = .ok (.putfield 188, 3) := by decide +kernel
theorem dX10_fireballAnew_49 : decode cX10_fireballAnew 49 = .ok (.iinc 3 1, 3) := by decide +kernel
theorem dX10_fireballAnew_52 : decode cX10_fireballAnew 52 = .ok (.goto (-33), 3) := by decide +kernel
theorem dX10_fireballAnew_55 : decode cX10_fireballAnew 55 = .ok (.iconst 1, 1) := by decide +kernel
theorem dX10_fireballAnew_56 : decode cX10_fireballAnew 56 = .ok (.istore_n 3, 1) := by decide +kernel
theorem dX10_fireballAnew_57 : decode cX10_fireballAnew 57 = .ok (.iconst 0, 1) := by decide +kernel
theorem dX10_fireballAnew_58 : decode cX10_fireballAnew 58 = .ok (.istore 4, 2) := by decide +kernel
theorem dX10_fireballAnew_60 : decode cX10_fireballAnew 60 = .ok (.iload_n 3, 1) := by decide +kernel
theorem dX10_fireballAnew_61 : decode cX10_fireballAnew 61 = .ok (.ifCond .eq 28, 3) := by decide +kernel
theorem dX10_fireballAnew_64 : decode cX10_fireballAnew 64 = .ok (.iload 4, 2) := by decide +kernel
theorem dX10_fireballAnew_66 : decode cX10_fireballAnew 66 = .ok (.aload_n 0, 1) := by decide +kernel
theorem dX10_fireballAnew_67 : decode cX10_fireballAnew 67 = .ok (.getfield 19, 3) := by decide +kernel
theorem dX10_fireballAnew_70 : decode cX10_fireballAnew 70 = .ok (.invokeinterface 85 1, 5) := by decide +kernel
theorem dX10_fireballAnew_75 : decode cX10_fireballAnew 75 = .ok (.if_icmp .ge 14, 3) := by decide +kernel
theorem dX10_fireballAnew_78 : decode cX10_fireballAnew 78 = .ok (.aload_n 0, 1) := by decide +kernel
theorem dX10_fireballAnew_79 : decode cX10_fireballAnew 79 = .ok (.invokevirtual 191, 3) := by decide +kernel
theorem dX10_fireballAnew_82 : decode cX10_fireballAnew 82 = .ok (.istore_n 3, 1) := by decide +kernel
theorem dX10_fireballAnew_83 : decode cX10_fireballAnew 83 = .ok (.iinc 4 1, 3) := by decide +kernel
theorem dX10_fireballAnew_86 : decode cX10_fireballAnew 86 = .ok (.goto (-26), 3) := by decide +kernel
theorem dX10_fireballAnew_89 : decode cX10_fireballAnew 89 = .ok (.aload_n 2, 1) := by decide +kernel
theorem dX10_fireballAnew_90 : decode cX10_fireballAnew 90 = .ok (.getfield 188, 3) := by decide +kernel
theorem dX10_fireballAnew_93 : decode cX10_fireballAnew 93 = .ok (.ireturn, 1) := by decide +kernel
theorem dX10_fireballs_0 : decode cX10_fireballs 0 = .ok (.iload_n 1, 1) := by decide +kernel
theorem dX10_fireballs_1 : decode cX10_fireballs 1 = .ok (.invokestatic 111, 3) := by decide +kernel
theorem dX10_fireballs_4 : decode cX10_fireballs 4 = .ok (.aload_n 0, 1) := by decide +kernel
theorem dX10_fireballs_5 : decode cX10_fireballs 5 = .ok (.iload_n 1, 1) := by decide +kernel
theorem dX10_fireballs_6 : decode cX10_fireballs 6 = .ok (.iload_n 1, 1) := by decide +kernel
theorem dX10_fireballs_7 : decode cX10_fireballs 7 = .ok (.iconst 0, 1) := by decide +kernel
theorem dX10_fireballs_8 : decode cX10_fireballs 8 = .ok (.invokevirtual 195, 3) := by decide +kernel
theorem dX10_fireballs_11 : decode cX10_fireballs 11 = .ok (.ireturn, 1) := by decide +kernel
theorem dX10_told_0 : decode cX10_told 0 = .ok (.aload_n 0, 1) := by decide +kernel
theorem dX10_told_1 : decode cX10_told 1 = .ok (.iload_n 1, 1) := by decide +kernel
theorem dX10_told_2 : decode cX10_told 2 = .ok (.invokevirtual 199, 3) := by decide +kernel
theorem dX10_told_5 : decode cX10_told 5 = .ok (.astore_n 3, 1) := by decide +kernel
theorem dX10_told_6 : decode cX10_told 6 = .ok (.iload_n 2, 1) := by decide +kernel
theorem dX10_told_7 : decode cX10_told 7 = .ok (.iconst 0, 1) := by decide +kernel
theorem dX10_told_8 : decode cX10_told 8 = .ok (.bipush 7, 2) := by decide +kernel
theorem dX10_told_10 : decode cX10_told 10 = .ok (.invokestatic 81, 3) := by decide +kernel
theorem dX10_told_13 : decode cX10_told 13 = .ok (.aload_n 3, 1) := by decide +kernel
theorem dX10_told_14 : decode cX10_told 14 = .ok (.iload_n 2, 1) := by decide +kernel
theorem dX10_told_15 : decode cX10_told 15 = .ok (.invokevirtual 203, 3) := by decide +kernel
theorem dX10_told_18 : decode cX10_told 18 = .ok (.lreturn, 1) := by decide +kernel
theorem dX10_wind_0 : decode cX10_wind 0 = .ok (.iload_n 1, 1) := by decide +kernel
theorem dX10_wind_1 : decode cX10_wind 1 = .ok (.invokestatic 111, 3) := by decide +kernel
theorem dX10_wind_4 : decode cX10_wind 4 = .ok (.iload_n 2, 1) := by decide +kernel
theorem dX10_wind_5 : decode cX10_wind 5 = .ok (.bipush (-20), 2) := by decide +kernel
theorem dX10_wind_7 : decode cX10_wind 7 = .ok (.bipush 20, 2) := by decide +kernel
theorem dX10_wind_9 : decode cX10_wind 9 = .ok (.invokestatic 81, 3) := by decide +kernel
theorem dX10_wind_12 : decode cX10_wind 12 = .ok (.iload_n 3, 1) := by decide +kernel
theorem dX10_wind_13 : decode cX10_wind 13 = .ok (.bipush (-20), 2) := by decide +kernel
theorem dX10_wind_15 : decode cX10_wind 15 = .ok (.bipush 20, 2) := by decide +kernel
theorem dX10_wind_17 : decode cX10_wind 17 = .ok (.invokestatic 81, 3) := by decide +kernel
theorem dX10_wind_20 : decode cX10_wind 20 = .ok (.aload_n 0, 1) := by decide +kernel
theorem dX10_wind_21 : decode cX10_wind 21 = .ok (.iload_n 1, 1) := by decide +kernel
theorem dX10_wind_22 : decode cX10_wind 22 = .ok (.invokevirtual 215, 3) := by decide +kernel
theorem dX10_wind_25 : decode cX10_wind 25 = .ok (.astore 4, 2) := by decide +kernel
theorem dX10_wind_27 : decode cX10_wind 27 = .ok (.aload 4, 2) := by decide +kernel
theorem dX10_wind_29 : decode cX10_wind 29 = .ok (.ifnonnull 49, 3) := by decide +kernel
theorem dX10_wind_32 : decode cX10_wind 32 = .ok (.aload_n 0, 1) := by decide +kernel
theorem dX10_wind_33 : decode cX10_wind 33 = .ok (.getfield 39, 3) := by decide +kernel
theorem dX10_wind_36 : decode cX10_wind 36 = .ok (.invokeinterface 85 1, 5) := by decide +kernel
theorem dX10_wind_41 : decode cX10_wind 41 = .ok (.bipush 50, 2) := by decide +kernel
theorem dX10_wind_43 : decode cX10_wind 43 = .ok (.if_icmp .lt 13, 3) := by decide +kernel
theorem dX10_wind_46 : decode cX10_wind 46 = .ok (.new 89, 3) := by decide +kernel
theorem dX10_wind_49 : decode cX10_wind 49 = .ok (.dup, 1) := by decide +kernel
theorem dX10_wind_50 : decode cX10_wind 50 = .ok (.ldc 219, 2) := by decide +kernel
theorem dX10_wind_52 : decode cX10_wind 52 = .ok (.invokespecial 93, 3) := by decide +kernel
theorem dX10_wind_55 : decode cX10_wind 55 = .ok (.athrow, 1) := by decide +kernel
theorem dX10_wind_56 : decode cX10_wind 56 = .ok (.new 221, 3) := by decide +kernel
theorem dX10_wind_59 : decode cX10_wind 59 = .ok (.dup, 1) := by decide +kernel
theorem dX10_wind_60 : decode cX10_wind 60 = .ok (.iload_n 1, 1) := by decide +kernel
theorem dX10_wind_61 : decode cX10_wind 61 = .ok (.invokespecial 223, 3) := by decide +kernel
theorem dX10_wind_64 : decode cX10_wind 64 = .ok (.astore 4, 2) := by decide +kernel
theorem dX10_wind_66 : decode cX10_wind 66 = .ok (.aload_n 0, 1) := by decide +kernel
theorem dX10_wind_67 : decode cX10_wind 67 = .ok (.getfield 39, 3) := by decide +kernel
theorem dX10_wind_70 : decode cX10_wind 70 = .ok (.aload 4, 2) := by decide +kernel
theorem dX10_wind_72 : decode cX10_wind 72 = .ok (.invokeinterface 71 2, 5) := by decide +kernel
theorem dX10_wind_77 : decode cX10_wind 77 = .ok (.pop, 1) := by decide +kernel
theorem dX10_wind_78 : decode cX10_wind 78 = .ok (.aload 4, 2) := by decide +kernel
theorem dX10_wind_80 : decode cX10_wind 80 = .ok (.iload_n 2, 1) := by decide +kernel
theorem dX10_wind_81 : decode cX10_wind 81 = .ok (.putfield 225, 3) := by decide +kernel
theorem dX10_wind_84 : decode cX10_wind 84 = .ok (.aload 4, 2) := by decide +kernel
theorem dX10_wind_86 : decode cX10_wind 86 = .ok (.iload_n 3, 1) := by decide +kernel
theorem dX10_wind_87 : decode cX10_wind 87 = .ok (.putfield 228, 3) := by decide +kernel
theorem dX10_wind_90 : decode cX10_wind 90 = .ok (.return_, 1) := by decide +kernel
theorem dX10_walk_0 : decode cX10_walk 0 = .ok (.aload_n 0, 1) := by decide +kernel
theorem dX10_walk_1 : decode cX10_walk 1 = .ok (.iload_n 1, 1) := by decide +kernel
theorem dX10_walk_2 : decode cX10_walk 2 = .ok (.invokevirtual 199, 3) := by decide +kernel
theorem dX10_walk_5 : decode cX10_walk 5 = .ok (.astore 5, 2) := by decide +kernel
theorem dX10_walk_7 : decode cX10_walk 7 = .ok (.iload_n 2, 1) := by decide +kernel
theorem dX10_walk_8 : decode cX10_walk 8 = .ok (.iload_n 3, 1) := by decide +kernel
theorem dX10_walk_9 : decode cX10_walk 9 = .ok (.invokestatic 77, 3) := by decide +kernel
theorem dX10_walk_12 : decode cX10_walk 12 = .ok (.iload 4, 2) := by decide +kernel
theorem dX10_walk_14 : decode cX10_walk 14 = .ok (.iconst 1, 1) := by decide +kernel
theorem dX10_walk_15 : decode cX10_walk 15 = .ok (.bipush 100, 2) := by decide +kernel
theorem dX10_walk_17 : decode cX10_walk 17 = .ok (.invokestatic 81, 3) := by decide +kernel
theorem dX10_walk_20 : decode cX10_walk 20 = .ok (.aload_n 0, 1) := by decide +kernel
theorem dX10_walk_21 : decode cX10_walk 21 = .ok (.getfield 42, 3) := by decide +kernel
theorem dX10_walk_24 : decode cX10_walk 24 = .ok (.invokeinterface 85 1, 5) := by decide +kernel
theorem dX10_walk_29 : decode cX10_walk 29 = .ok (.bipush 60, 2) := by decide +kernel
theorem dX10_walk_31 : decode cX10_walk 31 = .ok (.if_icmp .lt 13, 3) := by decide +kernel
theorem dX10_walk_34 : decode cX10_walk 34 = .ok (.new 89, 3) := by decide +kernel
theorem dX10_walk_37 : decode cX10_walk 37 = .ok (.dup, 1) := by decide +kernel
theorem dX10_walk_38 : decode cX10_walk 38 = .ok (.ldc 231, 2) := by decide +kernel
theorem dX10_walk_40 : decode cX10_walk 40 = .ok (.invokespecial 93, 3) := by decide +kernel
theorem dX10_walk_43 : decode cX10_walk 43 = .ok (.athrow, 1) := by decide +kernel
theorem dX10_walk_44 : decode cX10_walk 44 = .ok (.aload_n 0, 1) := by decide +kernel
theorem dX10_walk_45 : decode cX10_walk 45 = .ok (.getfield 42, 3) := by decide +kernel
theorem dX10_walk_48 : decode cX10_walk 48 = .ok (.new 233, 3) := by decide +kernel
theorem dX10_walk_51 : decode cX10_walk 51 = .ok (.dup, 1) := by decide +kernel
theorem dX10_walk_52 : decode cX10_walk 52 = .ok (.iload_n 1, 1) := by decide +kernel
theorem dX10_walk_53 : decode cX10_walk 53 = .ok (.iload_n 2, 1) := by decide +kernel
theorem dX10_walk_54 : decode cX10_walk 54 = .ok (.iload_n 3, 1) := by decide +kernel
theorem dX10_walk_55 : decode cX10_walk 55 = .ok (.iload 4, 2) := by decide +kernel
theorem dX10_walk_57 : decode cX10_walk 57 = .ok (.aload_n 0, 1) := by decide +kernel
theorem dX10_walk_58 : decode cX10_walk 58 = .ok (.iload_n 1, 1) := by decide +kernel
theorem dX10_walk_59 : decode cX10_walk 59 = .ok (.iload_n 2, 1) := by decide +kernel
theorem dX10_walk_60 : decode cX10_walk 60 = .ok (.iload_n 3, 1) := by decide +kernel
theorem dX10_walk_61 : decode cX10_walk 61 = .ok (.invokevirtual 235, 3) := by decide +kernel
theorem dX10_walk_64 : decode cX10_walk 64 = .ok (.ifCond .ne 7, 3) := by decide +kernel
theorem dX10_walk_67 : decode cX10_walk 67 = .ok (.iconst 1, 1) := by decide +kernel
theorem dX10_walk_68 : decode cX10_walk 68 = .ok (.goto 4, 3) := by decide +kernel
theorem dX10_walk_71 : decode cX10_walk 71 = .ok (.iconst 0, 1) := by decide +kernel
theorem dX10_walk_72 : decode cX10_walk 72 = .ok (.invokespecial 239, 3) := by decide +kernel
theorem dX10_walk_75 : decode cX10_walk 75 = .ok (.invokeinterface 71 2, 5) := by decide +kernel
theorem dX10_walk_80 : decode cX10_walk 80 = .ok (.pop, 1) := by decide +kernel
theorem dX10_walk_81 : decode cX10_walk 81 = .ok (.aload_n 0, 1) := by decide +kernel
theorem dX10_walk_82 : decode cX10_walk 82 = .ok (.aload 5, 2) := by decide +kernel
theorem dX10_walk_84 : decode cX10_walk 84 = .ok (.iload_n 1, 1) := by decide +kernel
theorem dX10_walk_85 : decode cX10_walk 85 = .ok (.iload_n 2, 1) := by decide +kernel
theorem dX10_walk_86 : decode cX10_walk 86 = .ok (.iload_n 3, 1) := by decide +kernel
theorem dX10_walk_87 : decode cX10_walk 87 = .ok (.invokevirtual 242, 3) := by decide +kernel
theorem dX10_walk_90 : decode cX10_walk 90 = .ok (.lreturn, 1) := by decide +kernel
theorem dX10_chance_0 : decode cX10_chance 0 = .ok (.aload_n 0, 1) := by decide +kernel
theorem dX10_chance_1 : decode cX10_chance 1 = .ok (.iload_n 1, 1) := by decide +kernel
theorem dX10_chance_2 : decode cX10_chance 2 = .ok (.invokevirtual 199, 3) := by decide +kernel
theorem dX10_chance_5 : decode cX10_chance 5 = .ok (.astore 4, 2) := by decide +kernel
theorem dX10_chance_7 : decode cX10_chance 7 = .ok (.iload_n 2, 1) := by decide +kernel
theorem dX10_chance_8 : decode cX10_chance 8 = .ok (.iload_n 3, 1) := by decide +kernel
theorem dX10_chance_9 : decode cX10_chance 9 = .ok (.invokestatic 77, 3) := by decide +kernel
theorem dX10_chance_12 : decode cX10_chance 12 = .ok (.aload_n 0, 1) := by decide +kernel
theorem dX10_chance_13 : decode cX10_chance 13 = .ok (.aload 4, 2) := by decide +kernel
theorem dX10_chance_15 : decode cX10_chance 15 = .ok (.iload_n 1, 1) := by decide +kernel
theorem dX10_chance_16 : decode cX10_chance 16 = .ok (.iload_n 2, 1) := by decide +kernel
theorem dX10_chance_17 : decode cX10_chance 17 = .ok (.iload_n 3, 1) := by decide +kernel
theorem dX10_chance_18 : decode cX10_chance 18 = .ok (.invokevirtual 242, 3) := by decide +kernel
theorem dX10_chance_21 : decode cX10_chance 21 = .ok (.lreturn, 1) := by decide +kernel
theorem dX10_find_0 : decode cX10_find 0 = .ok (.iload_n 1, 1) := by decide +kernel
theorem dX10_find_1 : decode cX10_find 1 = .ok (.iload_n 2, 1) := by decide +kernel
theorem dX10_find_2 : decode cX10_find 2 = .ok (.invokestatic 77, 3) := by decide +kernel
theorem dX10_find_5 : decode cX10_find 5 = .ok (.iload_n 3, 1) := by decide +kernel
theorem dX10_find_6 : decode cX10_find 6 = .ok (.invokestatic 111, 3) := by decide +kernel
theorem dX10_find_9 : decode cX10_find 9 = .ok (.iload 4, 2) := by decide +kernel
theorem dX10_find_11 : decode cX10_find 11 = .ok (.iconst 1, 1) := by decide +kernel
theorem dX10_find_12 : decode cX10_find 12 = .ok (.ldc 246, 2) := by decide +kernel
theorem dX10_find_14 : decode cX10_find 14 = .ok (.invokestatic 81, 3) := by decide +kernel
theorem dX10_find_17 : decode cX10_find 17 = .ok (.iload 5, 2) := by decide +kernel
theorem dX10_find_19 : decode cX10_find 19 = .ok (.iconst 0, 1) := by decide +kernel
theorem dX10_find_20 : decode cX10_find 20 = .ok (.iconst 5, 1) := by decide +kernel
theorem dX10_find_21 : decode cX10_find 21 = .ok (.invokestatic 81, 3) := by decide +kernel
theorem dX10_find_24 : decode cX10_find 24 = .ok (.aload_n 0, 1) := by decide +kernel
theorem dX10_find_25 : decode cX10_find 25 = .ok (.getfield 52, 3) := by decide +kernel
theorem dX10_find_28 : decode cX10_find 28 = .ok (.invokeinterface 85 1, 5) := by decide +kernel
theorem dX10_find_33 : decode cX10_find 33 = .ok (.bipush 40, 2) := by decide +kernel
theorem dX10_find_35 : decode cX10_find 35 = .ok (.if_icmp .lt 13, 3) := by decide +kernel
theorem dX10_find_38 : decode cX10_find 38 = .ok (.new 89, 3) := by decide +kernel
theorem dX10_find_41 : decode cX10_find 41 = .ok (.dup, 1) := by decide +kernel
theorem dX10_find_42 : decode cX10_find 42 = .ok (.ldc 247, 2) := by decide +kernel
theorem dX10_find_44 : decode cX10_find 44 = .ok (.invokespecial 93, 3) := by decide +kernel
theorem dX10_find_47 : decode cX10_find 47 = .ok (.athrow, 1) := by decide +kernel
theorem dX10_find_48 : decode cX10_find 48 = .ok (.iload_n 1, 1) := by decide +kernel
theorem dX10_find_49 : decode cX10_find 49 = .ok (.iload_n 2, 1) := by decide +kernel
theorem dX10_find_50 : decode cX10_find 50 = .ok (.invokestatic 249, 3) := by decide +kernel
theorem dX10_find_53 : decode cX10_find 53 = .ok (.istore 6, 2) := by decide +kernel
theorem dX10_find_55 : decode cX10_find 55 = .ok (.aload_n 0, 1) := by decide +kernel
theorem dX10_find_56 : decode cX10_find 56 = .ok (.iload 6, 2) := by decide +kernel
theorem dX10_find_58 : decode cX10_find 58 = .ok (.invokevirtual 253, 3) := by decide +kernel
theorem dX10_find_61 : decode cX10_find 61 = .ok (.iconst 1, 1) := by decide +kernel
theorem dX10_find_62 : decode cX10_find 62 = .ok (.if_icmp .ne 11, 3) := by decide +kernel
theorem dX10_find_65 : decode cX10_find 65 = .ok (.bipush 10, 2) := by decide +kernel
theorem dX10_find_67 : decode cX10_find 67 = .ok (.iload 6, 2) := by decide +kernel
theorem dX10_find_69 : decode cX10_find 69 = .ok (.iadd, 1) := by decide +kernel
theorem dX10_find_70 : decode cX10_find 70 = .ok (.goto 5, 3) := by decide +kernel
theorem dX10_find_73 : decode cX10_find 73 = .ok (.iload 5, 2) := by decide +kernel
theorem dX10_find_75 : decode cX10_find 75 = .ok (.istore 7, 2) := by decide +kernel
theorem dX10_find_77 : decode cX10_find 77 = .ok (.new 257, 3) := by decide +kernel
theorem dX10_find_80 : decode cX10_find 80 = .ok (.dup, 1) := by decide +kernel
theorem dX10_find_81 : decode cX10_find 81 = .ok (.aload_n 0, 1) := by decide +kernel
theorem dX10_find_82 : decode cX10_find 82 = .ok (.getfield 52, 3) := by decide +kernel
theorem dX10_find_85 : decode cX10_find 85 = .ok (.invokeinterface 85 1, 5) := by decide +kernel
theorem dX10_find_90 : decode cX10_find 90 = .ok (.iload_n 1, 1) := by decide +kernel
theorem dX10_find_91 : decode cX10_find 91 = .ok (.iload_n 2, 1) := by decide +kernel
theorem dX10_find_92 : decode cX10_find 92 = .ok (.iload_n 3, 1) := by decide +kernel
theorem dX10_find_93 : decode cX10_find 93 = .ok (.iload 4, 2) := by decide +kernel
theorem dX10_find_95 : decode cX10_find 95 = .ok (.iload 7, 2) := by decide +kernel
theorem dX10_find_97 : decode cX10_find 97 = .ok (.aconst_null, 1) := by decide +kernel
theorem dX10_find_98 : decode cX10_find 98 = .ok (.invokespecial 259, 3) := by decide +kernel
theorem dX10_find_101 : decode cX10_find 101 = .ok (.astore 8, 2) := by decide +kernel
theorem dX10_find_103 : decode cX10_find 103 = .ok (.aload_n 0, 1) := by decide +kernel
theorem dX10_find_104 : decode cX10_find 104 = .ok (.getfield 52, 3) := by decide +kernel
theorem dX10_find_107 : decode cX10_find 107 = .ok (.aload 8, 2) := by decide +kernel
theorem dX10_find_109 : decode cX10_find 109 = .ok (.invokeinterface 71 2, 5) := by decide +kernel
theorem dX10_find_114 : decode cX10_find 114 = .ok (.pop, 1) := by decide +kernel
theorem dX10_find_115 : decode cX10_find 115 = .ok (.aload 8, 2) := by decide +kernel
theorem dX10_find_117 : decode cX10_find 117 = .ok (.getfield 262, 3) := by decide +kernel
theorem dX10_find_120 : decode cX10_find 120 = .ok (.ireturn, 1) := by decide +kernel
theorem dX10_fall_0 : decode cX10_fall 0 = .ok (.aload_n 0, 1) := by decide +kernel
theorem dX10_fall_1 : decode cX10_fall 1 = .ok (.aload_n 0, 1) := by decide +kernel
theorem dX10_fall_2 : decode cX10_fall 2 = .ok (.iload_n 1, 1) := by decide +kernel
theorem dX10_fall_3 : decode cX10_fall 3 = .ok (.invokevirtual 264, 3) := by decide +kernel
theorem dX10_fall_6 : decode cX10_fall 6 = .ok (.invokevirtual 268, 3) := by decide +kernel
theorem dX10_fall_9 : decode cX10_fall 9 = .ok (.ireturn, 1) := by decide +kernel
theorem dX10_requireRange_0 : decode cX10_requireRange 0 = .ok (.iload_n 0, 1) := by decide +kernel
theorem dX10_requireRange_1 : decode cX10_requireRange 1 = .ok (.iload_n 1, 1) := by decide +kernel
theorem dX10_requireRange_2 : decode cX10_requireRange 2 = .ok (.if_icmp .lt 8, 3) := by decide +kernel
theorem dX10_requireRange_5 : decode cX10_requireRange 5 = .ok (.iload_n 0, 1) := by decide +kernel
theorem dX10_requireRange_6 : decode cX10_requireRange 6 = .ok (.iload_n 2, 1) := by decide +kernel
theorem dX10_requireRange_7 : decode cX10_requireRange 7 = .ok (.if_icmp .le 14, 3) := by decide +kernel
theorem dX10_requireRange_10 : decode cX10_requireRange 10 = .ok (.new 287, 3) := by decide +kernel
theorem dX10_requireRange_13 : decode cX10_requireRange 13 = .ok (.dup, 1) := by decide +kernel
theorem dX10_requireRange_14 : decode cX10_requireRange 14 = .ok (.ldc_w 354, 3) := by decide +kernel
theorem dX10_requireRange_17 : decode cX10_requireRange 17 = .ok (.invokespecial 291, 3) := by decide +kernel
theorem dX10_requireRange_20 : decode cX10_requireRange 20 = .ok (.athrow, 1) := by decide +kernel
theorem dX10_requireRange_21 : decode cX10_requireRange 21 = .ok (.return_, 1) := by decide +kernel
theorem dX10_requireCell_0 : decode cX10_requireCell 0 = .ok (.iload_n 0, 1) := by decide +kernel
theorem dX10_requireCell_1 : decode cX10_requireCell 1 = .ok (.iconst 0, 1) := by decide +kernel
theorem dX10_requireCell_2 : decode cX10_requireCell 2 = .ok (.bipush 99, 2) := by decide +kernel
theorem dX10_requireCell_4 : decode cX10_requireCell 4 = .ok (.invokestatic 81, 3) := by decide +kernel
theorem dX10_requireCell_7 : decode cX10_requireCell 7 = .ok (.iload_n 1, 1) := by decide +kernel
theorem dX10_requireCell_8 : decode cX10_requireCell 8 = .ok (.iconst 0, 1) := by decide +kernel
theorem dX10_requireCell_9 : decode cX10_requireCell 9 = .ok (.bipush 99, 2) := by decide +kernel
theorem dX10_requireCell_11 : decode cX10_requireCell 11 = .ok (.invokestatic 81, 3) := by decide +kernel
theorem dX10_requireCell_14 : decode cX10_requireCell 14 = .ok (.return_, 1) := by decide +kernel
theorem dX10_requireNight_0 : decode cX10_requireNight 0 = .ok (.iload_n 0, 1) := by decide +kernel
theorem dX10_requireNight_1 : decode cX10_requireNight 1 = .ok (.iconst 0, 1) := by decide +kernel
theorem dX10_requireNight_2 : decode cX10_requireNight 2 = .ok (.sipush 3649, 3) := by decide +kernel
theorem dX10_requireNight_5 : decode cX10_requireNight 5 = .ok (.invokestatic 81, 3) := by decide +kernel
theorem dX10_requireNight_8 : decode cX10_requireNight 8 = .ok (.return_, 1) := by decide +kernel
theorem dX10_requireDirection_0 : decode cX10_requireDirection 0 = .ok (.iload_n 0, 1) := by decide +kernel
theorem dX10_requireDirection_1 : decode cX10_requireDirection 1 = .ok (.bipush (-100), 2) := by decide +kernel
theorem dX10_requireDirection_3 : decode cX10_requireDirection 3 = .ok (.bipush 100, 2) := by decide +kernel
theorem dX10_requireDirection_5 : decode cX10_requireDirection 5 = .ok (.invokestatic 81, 3) := by decide +kernel
theorem dX10_requireDirection_8 : decode cX10_requireDirection 8 = .ok (.iload_n 1, 1) := by decide +kernel
theorem dX10_requireDirection_9 : decode cX10_requireDirection 9 = .ok (.bipush (-100), 2) := by decide +kernel
theorem dX10_requireDirection_11 : decode cX10_requireDirection 11 = .ok (.bipush 100, 2) := by decide +kernel
theorem dX10_requireDirection_13 : decode cX10_requireDirection 13 = .ok (.invokestatic 81, 3) := by decide +kernel
theorem dX10_requireDirection_16 : decode cX10_requireDirection 16 = .ok (.iload_n 0, 1) := by decide +kernel
theorem dX10_requireDirection_17 : decode cX10_requireDirection 17 = .ok (.ifCond .ne 18, 3) := by decide +kernel
theorem dX10_requireDirection_20 : decode cX10_requireDirection 20 = .ok (.iload_n 1, 1) := by decide +kernel
theorem dX10_requireDirection_21 : decode cX10_requireDirection 21 = .ok (.ifCond .ne 14, 3) := by decide +kernel
theorem dX10_requireDirection_24 : decode cX10_requireDirection 24 = .ok (.new 287, 3) := by decide +kernel
theorem dX10_requireDirection_27 : decode cX10_requireDirection 27 = .ok (.dup, 1) := by decide +kernel
theorem dX10_requireDirection_28 : decode cX10_requireDirection 28 = .ok (.ldc_w 356, 3) := by decide +kernel
theorem dX10_requireDirection_31 : decode cX10_requireDirection 31 = .ok (.invokespecial 291, 3) := by decide +kernel
theorem dX10_requireDirection_34 : decode cX10_requireDirection 34 = .ok (.athrow, 1) := by decide +kernel
theorem dX10_requireDirection_35 : decode cX10_requireDirection 35 = .ok (.return_, 1) := by decide +kernel
theorem dX10_existingCamera_0 : decode cX10_existingCamera 0 = .ok (.iload_n 1, 1) := by decide +kernel
theorem dX10_existingCamera_1 : decode cX10_existingCamera 1 = .ok (.ifCond .lt 16, 3) := by decide +kernel
theorem dX10_existingCamera_4 : decode cX10_existingCamera 4 = .ok (.iload_n 1, 1) := by decide +kernel
theorem dX10_existingCamera_5 : decode cX10_existingCamera 5 = .ok (.aload_n 0, 1) := by decide +kernel
theorem dX10_existingCamera_6 : decode cX10_existingCamera 6 = .ok (.getfield 10, 3) := by decide +kernel
theorem dX10_existingCamera_9 : decode cX10_existingCamera 9 = .ok (.invokeinterface 85 1, 5) := by decide +kernel
theorem dX10_existingCamera_14 : decode cX10_existingCamera 14 = .ok (.if_icmp .lt 14, 3) := by decide +kernel
theorem dX10_existingCamera_17 : decode cX10_existingCamera 17 = .ok (.new 358, 3) := by decide +kernel
theorem dX10_existingCamera_20 : decode cX10_existingCamera 20 = .ok (.dup, 1) := by decide +kernel
theorem dX10_existingCamera_21 : decode cX10_existingCamera 21 = .ok (.ldc_w 360, 3) := by decide +kernel
theorem dX10_existingCamera_24 : decode cX10_existingCamera 24 = .ok (.invokespecial 362, 3) := by decide +kernel
theorem dX10_existingCamera_27 : decode cX10_existingCamera 27 = .ok (.athrow, 1) := by decide +kernel
theorem dX10_existingCamera_28 : decode cX10_existingCamera 28 = .ok (.aload_n 0, 1) := by decide +kernel
theorem dX10_existingCamera_29 : decode cX10_existingCamera 29 = .ok (.getfield 10, 3) := by decide +kernel
theorem dX10_existingCamera_32 : decode cX10_existingCamera 32 = .ok (.iload_n 1, 1) := by decide +kernel
theorem dX10_existingCamera_33 : decode cX10_existingCamera 33 = .ok (.invokeinterface 184 2, 5) := by decide +kernel
theorem dX10_existingCamera_38 : decode cX10_existingCamera 38 = .ok (.checkcast 96, 3) := by decide +kernel
theorem dX10_existingCamera_41 : decode cX10_existingCamera 41 = .ok (.areturn, 1) := by decide +kernel
theorem dX10_existingSighting_0 : decode cX10_existingSighting 0 = .ok (.iload_n 1, 1) := by decide +kernel
theorem dX10_existingSighting_1 : decode cX10_existingSighting 1 = .ok (.ifCond .lt 16, 3) := by decide +kernel
theorem dX10_existingSighting_4 : decode cX10_existingSighting 4 = .ok (.iload_n 1, 1) := by decide +kernel
theorem dX10_existingSighting_5 : decode cX10_existingSighting 5 = .ok (.aload_n 0, 1) := by decide +kernel
theorem dX10_existingSighting_6 : decode cX10_existingSighting 6 = .ok (.getfield 19, 3) := by decide +kernel
theorem dX10_existingSighting_9 : decode cX10_existingSighting 9 = .ok (.invokeinterface 85 1, 5) := by decide +kernel
theorem dX10_existingSighting_14 : decode cX10_existingSighting 14 = .ok (.if_icmp .lt 14, 3) := by decide +kernel
theorem dX10_existingSighting_17 : decode cX10_existingSighting 17 = .ok (.new 358, 3) := by decide +kernel
theorem dX10_existingSighting_20 : decode cX10_existingSighting 20 = .ok (.dup, 1) := by decide +kernel
theorem dX10_existingSighting_21 : decode cX10_existingSighting 21 = .ok (.ldc_w 363, 3) := by decide +kernel
theorem dX10_existingSighting_24 : decode cX10_existingSighting 24 = .ok (.invokespecial 362, 3) := by decide +kernel
theorem dX10_existingSighting_27 : decode cX10_existingSighting 27 = .ok (.athrow, 1) := by decide +kernel
theorem dX10_existingSighting_28 : decode cX10_existingSighting 28 = .ok (.aload_n 0, 1) := by decide +kernel
theorem dX10_existingSighting_29 : decode cX10_existingSighting 29 = .ok (.getfield 19, 3) := by decide +kernel
theorem dX10_existingSighting_32 : decode cX10_existingSighting 32 = .ok (.iload_n 1, 1) := by decide +kernel
theorem dX10_existingSighting_33 : decode cX10_existingSighting 33 = .ok (.invokeinterface 184 2, 5) := by decide +kernel
theorem dX10_existingSighting_38 : decode cX10_existingSighting 38 = .ok (.checkcast 140, 3) := by decide +kernel
theorem dX10_existingSighting_41 : decode cX10_existingSighting 41 = .ok (.areturn, 1) := by decide +kernel
theorem dX10_existingFireball_0 : decode cX10_existingFireball 0 = .ok (.iload_n 1, 1) := by decide +kernel
theorem dX10_existingFireball_1 : decode cX10_existingFireball 1 = .ok (.ifCond .lt 35, 3) := by decide +kernel
theorem dX10_existingFireball_4 : decode cX10_existingFireball 4 = .ok (.iload_n 1, 1) := by decide +kernel
theorem dX10_existingFireball_5 : decode cX10_existingFireball 5 = .ok (.aload_n 0, 1) := by decide +kernel
theorem dX10_existingFireball_6 : decode cX10_existingFireball 6 = .ok (.getfield 26, 3) := by decide +kernel
theorem dX10_existingFireball_9 : decode cX10_existingFireball 9 = .ok (.invokeinterface 85 1, 5) := by decide +kernel
theorem dX10_existingFireball_14 : decode cX10_existingFireball 14 = .ok (.if_icmp .ge 22, 3) := by decide +kernel
theorem dX10_existingFireball_17 : decode cX10_existingFireball 17 = .ok (.aload_n 0, 1) := by decide +kernel
theorem dX10_existingFireball_18 : decode cX10_existingFireball 18 = .ok (.getfield 26, 3) := by decide +kernel
theorem dX10_existingFireball_21 : decode cX10_existingFireball 21 = .ok (.iload_n 1, 1) := by decide +kernel
theorem dX10_existingFireball_22 : decode cX10_existingFireball 22 = .ok (.invokeinterface 184 2, 5) := by decide +kernel
theorem dX10_existingFireball_27 : decode cX10_existingFireball 27 = .ok (.checkcast 68, 3) := by decide +kernel
theorem dX10_existingFireball_30 : decode cX10_existingFireball 30 = .ok (.invokevirtual 365, 3) := by decide +kernel
theorem dX10_existingFireball_33 : decode cX10_existingFireball 33 = .ok (.ifCond .ne 14, 3) := by decide +kernel
theorem dX10_existingFireball_36 : decode cX10_existingFireball 36 = .ok (.new 358, 3) := by decide +kernel
theorem dX10_existingFireball_39 : decode cX10_existingFireball 39 = .ok (.dup, 1) := by decide +kernel
theorem dX10_existingFireball_40 : decode cX10_existingFireball 40 = .ok (.ldc_w 368, 3) := by decide +kernel
theorem dX10_existingFireball_43 : decode cX10_existingFireball 43 = .ok (.invokespecial 362, 3) := by decide +kernel
theorem dX10_existingFireball_46 : decode cX10_existingFireball 46 = .ok (.athrow, 1) := by decide +kernel
theorem dX10_existingFireball_47 : decode cX10_existingFireball 47 = .ok (.aload_n 0, 1) := by decide +kernel
theorem dX10_existingFireball_48 : decode cX10_existingFireball 48 = .ok (.getfield 26, 3) := by decide +kernel
theorem dX10_existingFireball_51 : decode cX10_existingFireball 51 = .ok (.iload_n 1, 1) := by decide +kernel
theorem dX10_existingFireball_52 : decode cX10_existingFireball 52 = .ok (.invokeinterface 184 2, 5) := by decide +kernel
theorem dX10_existingFireball_57 : decode cX10_existingFireball 57 = .ok (.checkcast 68, 3) := by decide +kernel
theorem dX10_existingFireball_60 : decode cX10_existingFireball 60 = .ok (.areturn, 1) := by decide +kernel
theorem dX10_existingStone_0 : decode cX10_existingStone 0 = .ok (.iload_n 1, 1) := by decide +kernel
theorem dX10_existingStone_1 : decode cX10_existingStone 1 = .ok (.ifCond .lt 16, 3) := by decide +kernel
theorem dX10_existingStone_4 : decode cX10_existingStone 4 = .ok (.iload_n 1, 1) := by decide +kernel
theorem dX10_existingStone_5 : decode cX10_existingStone 5 = .ok (.aload_n 0, 1) := by decide +kernel
theorem dX10_existingStone_6 : decode cX10_existingStone 6 = .ok (.getfield 52, 3) := by decide +kernel
theorem dX10_existingStone_9 : decode cX10_existingStone 9 = .ok (.invokeinterface 85 1, 5) := by decide +kernel
theorem dX10_existingStone_14 : decode cX10_existingStone 14 = .ok (.if_icmp .lt 14, 3) := by decide +kernel
theorem dX10_existingStone_17 : decode cX10_existingStone 17 = .ok (.new 358, 3) := by decide +kernel
theorem dX10_existingStone_20 : decode cX10_existingStone 20 = .ok (.dup, 1) := by decide +kernel
theorem dX10_existingStone_21 : decode cX10_existingStone 21 = .ok (.ldc_w 370, 3) := by decide +kernel
theorem dX10_existingStone_24 : decode cX10_existingStone 24 = .ok (.invokespecial 362, 3) := by decide +kernel
theorem dX10_existingStone_27 : decode cX10_existingStone 27 = .ok (.athrow, 1) := by decide +kernel
theorem dX10_existingStone_28 : decode cX10_existingStone 28 = .ok (.aload_n 0, 1) := by decide +kernel
theorem dX10_existingStone_29 : decode cX10_existingStone 29 = .ok (.getfield 52, 3) := by decide +kernel
theorem dX10_existingStone_32 : decode cX10_existingStone 32 = .ok (.iload_n 1, 1) := by decide +kernel
theorem dX10_existingStone_33 : decode cX10_existingStone 33 = .ok (.invokeinterface 184 2, 5) := by decide +kernel
theorem dX10_existingStone_38 : decode cX10_existingStone 38 = .ok (.checkcast 257, 3) := by decide +kernel
theorem dX10_existingStone_41 : decode cX10_existingStone 41 = .ok (.areturn, 1) := by decide +kernel
theorem dX10_cloudyNights_0 : decode cX10_cloudyNights 0 = .ok (.iconst 0, 1) := by decide +kernel
theorem dX10_cloudyNights_1 : decode cX10_cloudyNights 1 = .ok (.istore 4, 2) := by decide +kernel
theorem dX10_cloudyNights_3 : decode cX10_cloudyNights 3 = .ok (.iconst 0, 1) := by decide +kernel
theorem dX10_cloudyNights_4 : decode cX10_cloudyNights 4 = .ok (.istore 5, 2) := by decide +kernel
theorem dX10_cloudyNights_6 : decode cX10_cloudyNights 6 = .ok (.iload 5, 2) := by decide +kernel
theorem dX10_cloudyNights_8 : decode cX10_cloudyNights 8 = .ok (.aload_n 0, 1) := by decide +kernel
theorem dX10_cloudyNights_9 : decode cX10_cloudyNights 9 = .ok (.getfield 16, 3) := by decide +kernel
theorem dX10_cloudyNights_12 : decode cX10_cloudyNights 12 = .ok (.invokeinterface 85 1, 5) := by decide +kernel
theorem dX10_cloudyNights_17 : decode cX10_cloudyNights 17 = .ok (.if_icmp .ge 55, 3) := by decide +kernel
theorem dX10_cloudyNights_20 : decode cX10_cloudyNights 20 = .ok (.aload_n 0, 1) := by decide +kernel
theorem dX10_cloudyNights_21 : decode cX10_cloudyNights 21 = .ok (.getfield 16, 3) := by decide +kernel
theorem dX10_cloudyNights_24 : decode cX10_cloudyNights 24 = .ok (.iload 5, 2) := by decide +kernel
theorem dX10_cloudyNights_26 : decode cX10_cloudyNights 26 = .ok (.invokeinterface 184 2, 5) := by decide +kernel
theorem dX10_cloudyNights_31 : decode cX10_cloudyNights 31 = .ok (.checkcast 128, 3) := by decide +kernel
theorem dX10_cloudyNights_34 : decode cX10_cloudyNights 34 = .ok (.astore 6, 2) := by decide +kernel
theorem dX10_cloudyNights_36 : decode cX10_cloudyNights 36 = .ok (.aload 6, 2) := by decide +kernel
theorem dX10_cloudyNights_38 : decode cX10_cloudyNights 38 = .ok (.getfield 372, 3) := by decide +kernel
theorem dX10_cloudyNights_41 : decode cX10_cloudyNights 41 = .ok (.aload_n 1, 1) := by decide +kernel
theorem dX10_cloudyNights_42 : decode cX10_cloudyNights 42 = .ok (.if_acmp .ne 24, 3) := by decide +kernel
theorem dX10_cloudyNights_45 : decode cX10_cloudyNights 45 = .ok (.aload 6, 2) := by decide +kernel
theorem dX10_cloudyNights_47 : decode cX10_cloudyNights 47 = .ok (.getfield 373, 3) := by decide +kernel
theorem dX10_cloudyNights_50 : decode cX10_cloudyNights 50 = .ok (.iload_n 2, 1) := by decide +kernel
theorem dX10_cloudyNights_51 : decode cX10_cloudyNights 51 = .ok (.if_icmp .lt 15, 3) := by decide +kernel
theorem dX10_cloudyNights_54 : decode cX10_cloudyNights 54 = .ok (.aload 6, 2) := by decide +kernel
theorem dX10_cloudyNights_56 : decode cX10_cloudyNights 56 = .ok (.getfield 373, 3) := by decide +kernel
theorem dX10_cloudyNights_59 : decode cX10_cloudyNights 59 = .ok (.iload_n 3, 1) := by decide +kernel
theorem dX10_cloudyNights_60 : decode cX10_cloudyNights 60 = .ok (.if_icmp .gt 6, 3) := by decide +kernel
theorem dX10_cloudyNights_63 : decode cX10_cloudyNights 63 = .ok (.iinc 4 1, 3) := by decide +kernel
theorem dX10_cloudyNights_66 : decode cX10_cloudyNights 66 = .ok (.iinc 5 1, 3) := by decide +kernel
theorem dX10_cloudyNights_69 : decode cX10_cloudyNights 69 = .ok (.goto (-63), 3) := by decide +kernel
theorem dX10_cloudyNights_72 : decode cX10_cloudyNights 72 = .ok (.iload 4, 2) := by decide +kernel
theorem dX10_cloudyNights_74 : decode cX10_cloudyNights 74 = .ok (.ireturn, 1) := by decide +kernel
theorem dX10_isCloudy_0 : decode cX10_isCloudy 0 = .ok (.aload_n 0, 1) := by decide +kernel
theorem dX10_isCloudy_1 : decode cX10_isCloudy 1 = .ok (.aload_n 1, 1) := by decide +kernel
theorem dX10_isCloudy_2 : decode cX10_isCloudy 2 = .ok (.iload_n 2, 1) := by decide +kernel
theorem dX10_isCloudy_3 : decode cX10_isCloudy 3 = .ok (.iload_n 2, 1) := by decide +kernel
theorem dX10_isCloudy_4 : decode cX10_isCloudy 4 = .ok (.invokevirtual 133, 3) := by decide +kernel
theorem dX10_isCloudy_7 : decode cX10_isCloudy 7 = .ok (.ifCond .le 7, 3) := by decide +kernel
theorem dX10_isCloudy_10 : decode cX10_isCloudy 10 = .ok (.iconst 1, 1) := by decide +kernel
theorem dX10_isCloudy_11 : decode cX10_isCloudy 11 = .ok (.goto 4, 3) := by decide +kernel
theorem dX10_isCloudy_14 : decode cX10_isCloudy 14 = .ok (.iconst 0, 1) := by decide +kernel
theorem dX10_isCloudy_15 : decode cX10_isCloudy 15 = .ok (.ireturn, 1) := by decide +kernel
theorem dX10_gatherFireballs_0 : decode cX10_gatherFireballs 0 = .ok (.iconst 0, 1) := by decide +kernel
theorem dX10_gatherFireballs_1 : decode cX10_gatherFireballs 1 = .ok (.istore_n 1, 1) := by decide +kernel
theorem dX10_gatherFireballs_2 : decode cX10_gatherFireballs 2 = .ok (.iload_n 1, 1) := by decide +kernel
theorem dX10_gatherFireballs_3 : decode cX10_gatherFireballs 3 = .ok (.aload_n 0, 1) := by decide +kernel
theorem dX10_gatherFireballs_4 : decode cX10_gatherFireballs 4 = .ok (.getfield 26, 3) := by decide +kernel
theorem dX10_gatherFireballs_7 : decode cX10_gatherFireballs 7 = .ok (.invokeinterface 85 1, 5) := by decide +kernel
theorem dX10_gatherFireballs_12 : decode cX10_gatherFireballs 12 = .ok (.if_icmp .ge 25, 3) := by decide +kernel
theorem dX10_gatherFireballs_15 : decode cX10_gatherFireballs 15 = .ok (.aload_n 0, 1) := by decide +kernel
theorem dX10_gatherFireballs_16 : decode cX10_gatherFireballs 16 = .ok (.getfield 26, 3) := by decide +kernel
theorem dX10_gatherFireballs_19 : decode cX10_gatherFireballs 19 = .ok (.iload_n 1, 1) := by decide +kernel
theorem dX10_gatherFireballs_20 : decode cX10_gatherFireballs 20 = .ok (.invokeinterface 184 2, 5) := by decide +kernel
theorem dX10_gatherFireballs_25 : decode cX10_gatherFireballs 25 = .ok (.checkcast 68, 3) := by decide +kernel
theorem dX10_gatherFireballs_28 : decode cX10_gatherFireballs 28 = .ok (.invokevirtual 374, 3) := by decide +kernel
theorem dX10_gatherFireballs_31 : decode cX10_gatherFireballs 31 = .ok (.iinc 1 1, 3) := by decide +kernel
theorem dX10_gatherFireballs_34 : decode cX10_gatherFireballs 34 = .ok (.goto (-32), 3) := by decide +kernel
theorem dX10_gatherFireballs_37 : decode cX10_gatherFireballs 37 = .ok (.aload_n 0, 1) := by decide +kernel
theorem dX10_gatherFireballs_38 : decode cX10_gatherFireballs 38 = .ok (.invokevirtual 377, 3) := by decide +kernel
theorem dX10_gatherFireballs_41 : decode cX10_gatherFireballs 41 = .ok (.iconst 0, 1) := by decide +kernel
theorem dX10_gatherFireballs_42 : decode cX10_gatherFireballs 42 = .ok (.istore_n 1, 1) := by decide +kernel
theorem dX10_gatherFireballs_43 : decode cX10_gatherFireballs 43 = .ok (.iload_n 1, 1) := by decide +kernel
theorem dX10_gatherFireballs_44 : decode cX10_gatherFireballs 44 = .ok (.aload_n 0, 1) := by decide +kernel
theorem dX10_gatherFireballs_45 : decode cX10_gatherFireballs 45 = .ok (.getfield 19, 3) := by decide +kernel
theorem dX10_gatherFireballs_48 : decode cX10_gatherFireballs 48 = .ok (.invokeinterface 85 1, 5) := by decide +kernel
theorem dX10_gatherFireballs_53 : decode cX10_gatherFireballs 53 = .ok (.if_icmp .ge 71, 3) := by decide +kernel
theorem dX10_gatherFireballs_56 : decode cX10_gatherFireballs 56 = .ok (.aload_n 0, 1) := by decide +kernel
theorem dX10_gatherFireballs_57 : decode cX10_gatherFireballs 57 = .ok (.getfield 19, 3) := by decide +kernel
theorem dX10_gatherFireballs_60 : decode cX10_gatherFireballs 60 = .ok (.iload_n 1, 1) := by decide +kernel
theorem dX10_gatherFireballs_61 : decode cX10_gatherFireballs 61 = .ok (.invokeinterface 184 2, 5) := by decide +kernel
theorem dX10_gatherFireballs_66 : decode cX10_gatherFireballs 66 = .ok (.checkcast 140, 3) := by decide +kernel
theorem dX10_gatherFireballs_69 : decode cX10_gatherFireballs 69 = .ok (.astore_n 2, 1) := by decide +kernel
theorem dX10_gatherFireballs_70 : decode cX10_gatherFireballs 70 = .ok (.aload_n 2, 1) := by decide +kernel
theorem dX10_gatherFireballs_71 : decode cX10_gatherFireballs 71 = .ok (.getfield 180, 3) := by decide +kernel
theorem dX10_gatherFireballs_74 : decode cX10_gatherFireballs 74 = .ok (.lconst 0, 1) := by decide +kernel
theorem dX10_gatherFireballs_75 : decode cX10_gatherFireballs 75 = .ok (.lcmp, 1) := by decide +kernel
theorem dX10_gatherFireballs_76 : decode cX10_gatherFireballs 76 = .ok (.ifCond .eq 42, 3) := by decide +kernel
theorem dX10_gatherFireballs_79 : decode cX10_gatherFireballs 79 = .ok (.aload_n 2, 1) := by decide +kernel
theorem dX10_gatherFireballs_80 : decode cX10_gatherFireballs 80 = .ok (.getfield 177, 3) := by decide +kernel
theorem dX10_gatherFireballs_83 : decode cX10_gatherFireballs 83 = .ok (.iconst (-1), 1) := by decide +kernel
theorem dX10_gatherFireballs_84 : decode cX10_gatherFireballs 84 = .ok (.if_icmp .ne 34, 3) := by decide +kernel
theorem dX10_gatherFireballs_87 : decode cX10_gatherFireballs 87 = .ok (.iload_n 1, 1) := by decide +kernel
theorem dX10_gatherFireballs_88 : decode cX10_gatherFireballs 88 = .ok (.aload_n 0, 1) := by decide +kernel
theorem dX10_gatherFireballs_89 : decode cX10_gatherFireballs 89 = .ok (.getfield 26, 3) := by decide +kernel
theorem dX10_gatherFireballs_92 : decode cX10_gatherFireballs 92 = .ok (.invokeinterface 85 1, 5) := by decide +kernel
theorem dX10_gatherFireballs_97 : decode cX10_gatherFireballs 97 = .ok (.if_icmp .ge 21, 3) := by decide +kernel
theorem dX10_gatherFireballs_100 : decode cX10_gatherFireballs 100 = .ok (.aload_n 0, 1) := by decide +kernel
theorem dX10_gatherFireballs_101 : decode cX10_gatherFireballs 101 = .ok (.aload_n 0, 1) := by decide +kernel
theorem dX10_gatherFireballs_102 : decode cX10_gatherFireballs 102 = .ok (.getfield 26, 3) := by decide +kernel
theorem dX10_gatherFireballs_105 : decode cX10_gatherFireballs 105 = .ok (.iload_n 1, 1) := by decide +kernel
theorem dX10_gatherFireballs_106 : decode cX10_gatherFireballs 106 = .ok (.invokeinterface 184 2, 5) := by decide +kernel
theorem dX10_gatherFireballs_111 : decode cX10_gatherFireballs 111 = .ok (.checkcast 68, 3) := by decide +kernel
theorem dX10_gatherFireballs_114 : decode cX10_gatherFireballs 114 = .ok (.iload_n 1, 1) := by decide +kernel
theorem dX10_gatherFireballs_115 : decode cX10_gatherFireballs 115 = .ok (.invokevirtual 380, 3) := by decide +kernel
theorem dX10_gatherFireballs_118 : decode cX10_gatherFireballs 118 = .ok (.iinc 1 1, 3) := by decide +kernel
theorem dX10_gatherFireballs_121 : decode cX10_gatherFireballs 121 = .ok (.goto (-78), 3) := by decide +kernel
theorem dX10_gatherFireballs_124 : decode cX10_gatherFireballs 124 = .ok (.return_, 1) := by decide +kernel
theorem dX10_joinSightings_0 : decode cX10_joinSightings 0 = .ok (.iconst 0, 1) := by decide +kernel
theorem dX10_joinSightings_1 : decode cX10_joinSightings 1 = .ok (.istore_n 1, 1) := by decide +kernel
theorem dX10_joinSightings_2 : decode cX10_joinSightings 2 = .ok (.iload_n 1, 1) := by decide +kernel
theorem dX10_joinSightings_3 : decode cX10_joinSightings 3 = .ok (.aload_n 0, 1) := by decide +kernel
theorem dX10_joinSightings_4 : decode cX10_joinSightings 4 = .ok (.getfield 19, 3) := by decide +kernel
theorem dX10_joinSightings_7 : decode cX10_joinSightings 7 = .ok (.invokeinterface 85 1, 5) := by decide +kernel
theorem dX10_joinSightings_12 : decode cX10_joinSightings 12 = .ok (.if_icmp .ge 96, 3) := by decide +kernel
theorem dX10_joinSightings_15 : decode cX10_joinSightings 15 = .ok (.aload_n 0, 1) := by decide +kernel
theorem dX10_joinSightings_16 : decode cX10_joinSightings 16 = .ok (.getfield 19, 3) := by decide +kernel
theorem dX10_joinSightings_19 : decode cX10_joinSightings 19 = .ok (.iload_n 1, 1) := by decide +kernel
theorem dX10_joinSightings_20 : decode cX10_joinSightings 20 = .ok (.invokeinterface 184 2, 5) := by decide +kernel
theorem dX10_joinSightings_25 : decode cX10_joinSightings 25 = .ok (.checkcast 140, 3) := by decide +kernel
theorem dX10_joinSightings_28 : decode cX10_joinSightings 28 = .ok (.astore_n 2, 1) := by decide +kernel
theorem dX10_joinSightings_29 : decode cX10_joinSightings 29 = .ok (.aload_n 2, 1) := by decide +kernel
theorem dX10_joinSightings_30 : decode cX10_joinSightings 30 = .ok (.lconst 0, 1) := by decide +kernel
theorem dX10_joinSightings_31 : decode cX10_joinSightings 31 = .ok (.putfield 180, 3) := by decide +kernel
theorem dX10_joinSightings_34 : decode cX10_joinSightings 34 = .ok (.aload_n 2, 1) := by decide +kernel
theorem dX10_joinSightings_35 : decode cX10_joinSightings 35 = .ok (.iconst (-1), 1) := by decide +kernel
theorem dX10_joinSightings_36 : decode cX10_joinSightings 36 = .ok (.putfield 177, 3) := by decide +kernel
theorem dX10_joinSightings_39 : decode cX10_joinSightings 39 = .ok (.iconst 0, 1) := by decide +kernel
theorem dX10_joinSightings_40 : decode cX10_joinSightings 40 = .ok (.istore_n 3, 1) := by decide +kernel
theorem dX10_joinSightings_41 : decode cX10_joinSightings 41 = .ok (.iload_n 3, 1) := by decide +kernel
theorem dX10_joinSightings_42 : decode cX10_joinSightings 42 = .ok (.iload_n 1, 1) := by decide +kernel
theorem dX10_joinSightings_43 : decode cX10_joinSightings 43 = .ok (.if_icmp .ge 59, 3) := by decide +kernel
theorem dX10_joinSightings_46 : decode cX10_joinSightings 46 = .ok (.aload_n 0, 1) := by decide +kernel
theorem dX10_joinSightings_47 : decode cX10_joinSightings 47 = .ok (.getfield 19, 3) := by decide +kernel
theorem dX10_joinSightings_50 : decode cX10_joinSightings 50 = .ok (.iload_n 3, 1) := by decide +kernel
theorem dX10_joinSightings_51 : decode cX10_joinSightings 51 = .ok (.invokeinterface 184 2, 5) := by decide +kernel
theorem dX10_joinSightings_56 : decode cX10_joinSightings 56 = .ok (.checkcast 140, 3) := by decide +kernel
theorem dX10_joinSightings_59 : decode cX10_joinSightings 59 = .ok (.astore 4, 2) := by decide +kernel
theorem dX10_joinSightings_61 : decode cX10_joinSightings 61 = .ok (.aload_n 0, 1) := by decide +kernel
theorem dX10_joinSightings_62 : decode cX10_joinSightings 62 = .ok (.aload_n 2, 1) := by decide +kernel
theorem dX10_joinSightings_63 : decode cX10_joinSightings 63 = .ok (.aload 4, 2) := by decide +kernel
theorem dX10_joinSightings_65 : decode cX10_joinSightings 65 = .ok (.invokevirtual 384, 3) := by decide +kernel
theorem dX10_joinSightings_68 : decode cX10_joinSightings 68 = .ok (.ifCond .eq 28, 3) := by decide +kernel
theorem dX10_joinSightings_71 : decode cX10_joinSightings 71 = .ok (.aload_n 2, 1) := by decide +kernel
theorem dX10_joinSightings_72 : decode cX10_joinSightings 72 = .ok (.dup, 1) := by decide +kernel
theorem dX10_joinSightings_73 : decode cX10_joinSightings 73 = .ok (.getfield 180, 3) := by decide +kernel
theorem dX10_joinSightings_76 : decode cX10_joinSightings 76 = .ok (.lconst 1, 1) := by decide +kernel
theorem dX10_joinSightings_77 : decode cX10_joinSightings 77 = .ok (.iload_n 3, 1) := by decide +kernel
theorem dX10_joinSightings_78 : decode cX10_joinSightings 78 = .ok (.lshl, 1) := by decide +kernel
theorem dX10_joinSightings_79 : decode cX10_joinSightings 79 = .ok (.lor, 1) := by decide +kernel
theorem dX10_joinSightings_80 : decode cX10_joinSightings 80 = .ok (.putfield 180, 3) := by decide +kernel
theorem dX10_joinSightings_83 : decode cX10_joinSightings 83 = .ok (.aload 4, 2) := by decide +kernel
theorem dX10_joinSightings_85 : decode cX10_joinSightings 85 = .ok (.dup, 1) := by decide +kernel
theorem dX10_joinSightings_86 : decode cX10_joinSightings 86 = .ok (.getfield 180, 3) := by decide +kernel
theorem dX10_joinSightings_89 : decode cX10_joinSightings 89 = .ok (.lconst 1, 1) := by decide +kernel
theorem dX10_joinSightings_90 : decode cX10_joinSightings 90 = .ok (.iload_n 1, 1) := by decide +kernel
theorem dX10_joinSightings_91 : decode cX10_joinSightings 91 = .ok (.lshl, 1) := by decide +kernel
theorem dX10_joinSightings_92 : decode cX10_joinSightings 92 = .ok (.lor, 1) := by decide +kernel
theorem dX10_joinSightings_93 : decode cX10_joinSightings 93 = .ok (.putfield 180, 3) := by decide +kernel
theorem dX10_joinSightings_96 : decode cX10_joinSightings 96 = .ok (.iinc 3 1, 3) := by decide +kernel
theorem dX10_joinSightings_99 : decode cX10_joinSightings 99 = .ok (.goto (-58), 3) := by decide +kernel
theorem dX10_joinSightings_102 : decode cX10_joinSightings 102 = .ok (.iinc 1 1, 3) := by decide +kernel
theorem dX10_joinSightings_105 : decode cX10_joinSightings 105 = .ok (.goto (-103), 3) := by decide +kernel
theorem dX10_joinSightings_108 : decode cX10_joinSightings 108 = .ok (.return_, 1) := by decide +kernel
theorem dX10_doJoin_0 : decode cX10_doJoin 0 = .ok (.aload_n 1, 1) := by decide +kernel
theorem dX10_doJoin_1 : decode cX10_doJoin 1 = .ok (.aload_n 2, 1) := by decide +kernel
theorem dX10_doJoin_2 : decode cX10_doJoin 2 = .ok (.invokevirtual 388, 3) := by decide +kernel
theorem dX10_doJoin_5 : decode cX10_doJoin 5 = .ok (.ifCond .eq 31, 3) := by decide +kernel
theorem dX10_doJoin_8 : decode cX10_doJoin 8 = .ok (.aload_n 0, 1) := by decide +kernel
theorem dX10_doJoin_9 : decode cX10_doJoin 9 = .ok (.getfield 32, 3) := by decide +kernel
theorem dX10_doJoin_12 : decode cX10_doJoin 12 = .ok (.aload_n 1, 1) := by decide +kernel
theorem dX10_doJoin_13 : decode cX10_doJoin 13 = .ok (.aload_n 2, 1) := by decide +kernel
theorem dX10_doJoin_14 : decode cX10_doJoin 14 = .ok (.invokevirtual 392, 3) := by decide +kernel
theorem dX10_doJoin_17 : decode cX10_doJoin 17 = .ok (.ifCond .eq 19, 3) := by decide +kernel
theorem dX10_doJoin_20 : decode cX10_doJoin 20 = .ok (.aload_n 0, 1) := by decide +kernel
theorem dX10_doJoin_21 : decode cX10_doJoin 21 = .ok (.getfield 36, 3) := by decide +kernel
theorem dX10_doJoin_24 : decode cX10_doJoin 24 = .ok (.aload_n 1, 1) := by decide +kernel
theorem dX10_doJoin_25 : decode cX10_doJoin 25 = .ok (.aload_n 2, 1) := by decide +kernel
theorem dX10_doJoin_26 : decode cX10_doJoin 26 = .ok (.invokevirtual 395, 3) := by decide +kernel
theorem dX10_doJoin_29 : decode cX10_doJoin 29 = .ok (.ifCond .eq 7, 3) := by decide +kernel
theorem dX10_doJoin_32 : decode cX10_doJoin 32 = .ok (.iconst 1, 1) := by decide +kernel
theorem dX10_doJoin_33 : decode cX10_doJoin 33 = .ok (.goto 4, 3) := by decide +kernel
theorem dX10_doJoin_36 : decode cX10_doJoin 36 = .ok (.iconst 0, 1) := by decide +kernel
theorem dX10_doJoin_37 : decode cX10_doJoin 37 = .ok (.ireturn, 1) := by decide +kernel
theorem dX10_gatherInto_0 : decode cX10_gatherInto 0 = .ok (.aload_n 0, 1) := by decide +kernel
theorem dX10_gatherInto_1 : decode cX10_gatherInto 1 = .ok (.iload_n 2, 1) := by decide +kernel
theorem dX10_gatherInto_2 : decode cX10_gatherInto 2 = .ok (.invokevirtual 398, 3) := by decide +kernel
theorem dX10_gatherInto_5 : decode cX10_gatherInto 5 = .ok (.lstore_n 3, 1) := by decide +kernel
theorem dX10_gatherInto_6 : decode cX10_gatherInto 6 = .ok (.iconst 0, 1) := by decide +kernel
theorem dX10_gatherInto_7 : decode cX10_gatherInto 7 = .ok (.istore 5, 2) := by decide +kernel
theorem dX10_gatherInto_9 : decode cX10_gatherInto 9 = .ok (.iload 5, 2) := by decide +kernel
theorem dX10_gatherInto_11 : decode cX10_gatherInto 11 = .ok (.aload_n 0, 1) := by decide +kernel
theorem dX10_gatherInto_12 : decode cX10_gatherInto 12 = .ok (.getfield 19, 3) := by decide +kernel
theorem dX10_gatherInto_15 : decode cX10_gatherInto 15 = .ok (.invokeinterface 85 1, 5) := by decide +kernel
theorem dX10_gatherInto_20 : decode cX10_gatherInto 20 = .ok (.if_icmp .ge 55, 3) := by decide +kernel
theorem dX10_gatherInto_23 : decode cX10_gatherInto 23 = .ok (.lload_n 3, 1) := by decide +kernel
theorem dX10_gatherInto_24 : decode cX10_gatherInto 24 = .ok (.iload 5, 2) := by decide +kernel
theorem dX10_gatherInto_26 : decode cX10_gatherInto 26 = .ok (.invokestatic 401, 3) := by decide +kernel
theorem dX10_gatherInto_29 : decode cX10_gatherInto 29 = .ok (.ifCond .eq 40, 3) := by decide +kernel
theorem dX10_gatherInto_32 : decode cX10_gatherInto 32 = .ok (.aload_n 0, 1) := by decide +kernel
theorem dX10_gatherInto_33 : decode cX10_gatherInto 33 = .ok (.getfield 19, 3) := by decide +kernel
theorem dX10_gatherInto_36 : decode cX10_gatherInto 36 = .ok (.iload 5, 2) := by decide +kernel
theorem dX10_gatherInto_38 : decode cX10_gatherInto 38 = .ok (.invokeinterface 184 2, 5) := by decide +kernel
theorem dX10_gatherInto_43 : decode cX10_gatherInto 43 = .ok (.checkcast 140, 3) := by decide +kernel
theorem dX10_gatherInto_46 : decode cX10_gatherInto 46 = .ok (.astore 6, 2) := by decide +kernel
theorem dX10_gatherInto_48 : decode cX10_gatherInto 48 = .ok (.aload 6, 2) := by decide +kernel
theorem dX10_gatherInto_50 : decode cX10_gatherInto 50 = .ok (.iload_n 2, 1) := by decide +kernel
theorem dX10_gatherInto_51 : decode cX10_gatherInto 51 = .ok (.putfield 177, 3) := by decide +kernel
theorem dX10_gatherInto_54 : decode cX10_gatherInto 54 = .ok (.aload_n 1, 1) := by decide +kernel
theorem dX10_gatherInto_55 : decode cX10_gatherInto 55 = .ok (.aload 6, 2) := by decide +kernel
theorem dX10_gatherInto_57 : decode cX10_gatherInto 57 = .ok (.invokevirtual 405, 3) := by decide +kernel
theorem dX10_gatherInto_60 : decode cX10_gatherInto 60 = .ok (.aload_n 0, 1) := by decide +kernel
theorem dX10_gatherInto_61 : decode cX10_gatherInto 61 = .ok (.aload_n 1, 1) := by decide +kernel
theorem dX10_gatherInto_62 : decode cX10_gatherInto 62 = .ok (.aload 6, 2) := by decide +kernel
theorem dX10_gatherInto_64 : decode cX10_gatherInto 64 = .ok (.iload 5, 2) := by decide +kernel
theorem dX10_gatherInto_66 : decode cX10_gatherInto 66 = .ok (.invokevirtual 408, 3) := by decide +kernel
theorem dX10_gatherInto_69 : decode cX10_gatherInto 69 = .ok (.iinc 5 1, 3) := by decide +kernel
theorem dX10_gatherInto_72 : decode cX10_gatherInto 72 = .ok (.goto (-63), 3) := by decide +kernel
theorem dX10_gatherInto_75 : decode cX10_gatherInto 75 = .ok (.aload_n 1, 1) := by decide +kernel
theorem dX10_gatherInto_76 : decode cX10_gatherInto 76 = .ok (.invokevirtual 412, 3) := by decide +kernel
theorem dX10_gatherInto_79 : decode cX10_gatherInto 79 = .ok (.return_, 1) := by decide +kernel
theorem dX10_addPlaces_0 : decode cX10_addPlaces 0 = .ok (.iconst 0, 1) := by decide +kernel
theorem dX10_addPlaces_1 : decode cX10_addPlaces 1 = .ok (.istore 4, 2) := by decide +kernel
theorem dX10_addPlaces_3 : decode cX10_addPlaces 3 = .ok (.iload 4, 2) := by decide +kernel
theorem dX10_addPlaces_5 : decode cX10_addPlaces 5 = .ok (.iload_n 3, 1) := by decide +kernel
theorem dX10_addPlaces_6 : decode cX10_addPlaces 6 = .ok (.if_icmp .ge 89, 3) := by decide +kernel
theorem dX10_addPlaces_9 : decode cX10_addPlaces 9 = .ok (.iload 4, 2) := by decide +kernel
theorem dX10_addPlaces_11 : decode cX10_addPlaces 11 = .ok (.aload_n 0, 1) := by decide +kernel
theorem dX10_addPlaces_12 : decode cX10_addPlaces 12 = .ok (.getfield 19, 3) := by decide +kernel
theorem dX10_addPlaces_15 : decode cX10_addPlaces 15 = .ok (.invokeinterface 85 1, 5) := by decide +kernel
theorem dX10_addPlaces_20 : decode cX10_addPlaces 20 = .ok (.if_icmp .ge 75, 3) := by decide +kernel
theorem dX10_addPlaces_23 : decode cX10_addPlaces 23 = .ok (.aload_n 0, 1) := by decide +kernel
theorem dX10_addPlaces_24 : decode cX10_addPlaces 24 = .ok (.getfield 19, 3) := by decide +kernel
theorem dX10_addPlaces_27 : decode cX10_addPlaces 27 = .ok (.iload 4, 2) := by decide +kernel
theorem dX10_addPlaces_29 : decode cX10_addPlaces 29 = .ok (.invokeinterface 184 2, 5) := by decide +kernel
theorem dX10_addPlaces_34 : decode cX10_addPlaces 34 = .ok (.checkcast 140, 3) := by decide +kernel
theorem dX10_addPlaces_37 : decode cX10_addPlaces 37 = .ok (.astore 5, 2) := by decide +kernel
theorem dX10_addPlaces_39 : decode cX10_addPlaces 39 = .ok (.aload_n 2, 1) := by decide +kernel
theorem dX10_addPlaces_40 : decode cX10_addPlaces 40 = .ok (.getfield 180, 3) := by decide +kernel
theorem dX10_addPlaces_43 : decode cX10_addPlaces 43 = .ok (.iload 4, 2) := by decide +kernel
theorem dX10_addPlaces_45 : decode cX10_addPlaces 45 = .ok (.invokestatic 401, 3) := by decide +kernel
theorem dX10_addPlaces_48 : decode cX10_addPlaces 48 = .ok (.ifCond .eq 41, 3) := by decide +kernel
theorem dX10_addPlaces_51 : decode cX10_addPlaces 51 = .ok (.aload_n 0, 1) := by decide +kernel
theorem dX10_addPlaces_52 : decode cX10_addPlaces 52 = .ok (.getfield 32, 3) := by decide +kernel
theorem dX10_addPlaces_55 : decode cX10_addPlaces 55 = .ok (.aload_n 2, 1) := by decide +kernel
theorem dX10_addPlaces_56 : decode cX10_addPlaces 56 = .ok (.aload 5, 2) := by decide +kernel
theorem dX10_addPlaces_58 : decode cX10_addPlaces 58 = .ok (.invokevirtual 392, 3) := by decide +kernel
theorem dX10_addPlaces_61 : decode cX10_addPlaces 61 = .ok (.ifCond .eq 28, 3) := by decide +kernel
theorem dX10_addPlaces_64 : decode cX10_addPlaces 64 = .ok (.aload_n 0, 1) := by decide +kernel
theorem dX10_addPlaces_65 : decode cX10_addPlaces 65 = .ok (.getfield 36, 3) := by decide +kernel
theorem dX10_addPlaces_68 : decode cX10_addPlaces 68 = .ok (.aload_n 2, 1) := by decide +kernel
theorem dX10_addPlaces_69 : decode cX10_addPlaces 69 = .ok (.aload 5, 2) := by decide +kernel
theorem dX10_addPlaces_71 : decode cX10_addPlaces 71 = .ok (.invokevirtual 395, 3) := by decide +kernel
theorem dX10_addPlaces_74 : decode cX10_addPlaces 74 = .ok (.ifCond .eq 15, 3) := by decide +kernel
theorem dX10_addPlaces_77 : decode cX10_addPlaces 77 = .ok (.aload_n 1, 1) := by decide +kernel
theorem dX10_addPlaces_78 : decode cX10_addPlaces 78 = .ok (.aload_n 0, 1) := by decide +kernel
theorem dX10_addPlaces_79 : decode cX10_addPlaces 79 = .ok (.getfield 32, 3) := by decide +kernel
theorem dX10_addPlaces_82 : decode cX10_addPlaces 82 = .ok (.aload_n 0, 1) := by decide +kernel
theorem dX10_addPlaces_83 : decode cX10_addPlaces 83 = .ok (.getfield 36, 3) := by decide +kernel
theorem dX10_addPlaces_86 : decode cX10_addPlaces 86 = .ok (.invokevirtual 415, 3) := by decide +kernel
theorem dX10_addPlaces_89 : decode cX10_addPlaces 89 = .ok (.iinc 4 1, 3) := by decide +kernel
theorem dX10_addPlaces_92 : decode cX10_addPlaces 92 = .ok (.goto (-89), 3) := by decide +kernel
theorem dX10_addPlaces_95 : decode cX10_addPlaces 95 = .ok (.return_, 1) := by decide +kernel
theorem dX10_groupOf_0 : decode cX10_groupOf 0 = .ok (.lconst 1, 1) := by decide +kernel
theorem dX10_groupOf_1 : decode cX10_groupOf 1 = .ok (.iload_n 1, 1) := by decide +kernel
theorem dX10_groupOf_2 : decode cX10_groupOf 2 = .ok (.lshl, 1) := by decide +kernel
theorem dX10_groupOf_3 : decode cX10_groupOf 3 = .ok (.lstore_n 2, 1) := by decide +kernel
theorem dX10_groupOf_4 : decode cX10_groupOf 4 = .ok (.iconst 1, 1) := by decide +kernel
theorem dX10_groupOf_5 : decode cX10_groupOf 5 = .ok (.istore 4, 2) := by decide +kernel
theorem dX10_groupOf_7 : decode cX10_groupOf 7 = .ok (.iconst 0, 1) := by decide +kernel
theorem dX10_groupOf_8 : decode cX10_groupOf 8 = .ok (.istore 5, 2) := by decide +kernel
theorem dX10_groupOf_10 : decode cX10_groupOf 10 = .ok (.iload 4, 2) := by decide +kernel
theorem dX10_groupOf_12 : decode cX10_groupOf 12 = .ok (.ifCond .eq 92, 3) := by decide +kernel
theorem dX10_groupOf_15 : decode cX10_groupOf 15 = .ok (.iload 5, 2) := by decide +kernel
theorem dX10_groupOf_17 : decode cX10_groupOf 17 = .ok (.aload_n 0, 1) := by decide +kernel
theorem dX10_groupOf_18 : decode cX10_groupOf 18 = .ok (.getfield 19, 3) := by decide +kernel
theorem dX10_groupOf_21 : decode cX10_groupOf 21 = .ok (.invokeinterface 85 1, 5) := by decide +kernel
theorem dX10_groupOf_26 : decode cX10_groupOf 26 = .ok (.if_icmp .ge 78, 3) := by decide +kernel
theorem dX10_groupOf_29 : decode cX10_groupOf 29 = .ok (.lload_n 2, 1) := by decide +kernel
theorem dX10_groupOf_30 : decode cX10_groupOf 30 = .ok (.lstore 6, 2) := by decide +kernel
theorem dX10_groupOf_32 : decode cX10_groupOf 32 = .ok (.iconst 0, 1) := by decide +kernel
theorem dX10_groupOf_33 : decode cX10_groupOf 33 = .ok (.istore 8, 2) := by decide +kernel
theorem dX10_groupOf_35 : decode cX10_groupOf 35 = .ok (.iload 8, 2) := by decide +kernel
theorem dX10_groupOf_37 : decode cX10_groupOf 37 = .ok (.aload_n 0, 1) := by decide +kernel
theorem dX10_groupOf_38 : decode cX10_groupOf 38 = .ok (.getfield 19, 3) := by decide +kernel
theorem dX10_groupOf_41 : decode cX10_groupOf 41 = .ok (.invokeinterface 85 1, 5) := by decide +kernel
theorem dX10_groupOf_46 : decode cX10_groupOf 46 = .ok (.if_icmp .ge 38, 3) := by decide +kernel
theorem dX10_groupOf_49 : decode cX10_groupOf 49 = .ok (.lload_n 2, 1) := by decide +kernel
theorem dX10_groupOf_50 : decode cX10_groupOf 50 = .ok (.iload 8, 2) := by decide +kernel
theorem dX10_groupOf_52 : decode cX10_groupOf 52 = .ok (.invokestatic 401, 3) := by decide +kernel
theorem dX10_groupOf_55 : decode cX10_groupOf 55 = .ok (.ifCond .eq 23, 3) := by decide +kernel
theorem dX10_groupOf_58 : decode cX10_groupOf 58 = .ok (.lload_n 2, 1) := by decide +kernel
theorem dX10_groupOf_59 : decode cX10_groupOf 59 = .ok (.aload_n 0, 1) := by decide +kernel
theorem dX10_groupOf_60 : decode cX10_groupOf 60 = .ok (.getfield 19, 3) := by decide +kernel
theorem dX10_groupOf_63 : decode cX10_groupOf 63 = .ok (.iload 8, 2) := by decide +kernel
theorem dX10_groupOf_65 : decode cX10_groupOf 65 = .ok (.invokeinterface 184 2, 5) := by decide +kernel
theorem dX10_groupOf_70 : decode cX10_groupOf 70 = .ok (.checkcast 140, 3) := by decide +kernel
theorem dX10_groupOf_73 : decode cX10_groupOf 73 = .ok (.getfield 180, 3) := by decide +kernel
theorem dX10_groupOf_76 : decode cX10_groupOf 76 = .ok (.lor, 1) := by decide +kernel
theorem dX10_groupOf_77 : decode cX10_groupOf 77 = .ok (.lstore_n 2, 1) := by decide +kernel
theorem dX10_groupOf_78 : decode cX10_groupOf 78 = .ok (.iinc 8 1, 3) := by decide +kernel
theorem dX10_groupOf_81 : decode cX10_groupOf 81 = .ok (.goto (-46), 3) := by decide +kernel
theorem dX10_groupOf_84 : decode cX10_groupOf 84 = .ok (.lload_n 2, 1) := by decide +kernel
theorem dX10_groupOf_85 : decode cX10_groupOf 85 = .ok (.lload 6, 2) := by decide +kernel
theorem dX10_groupOf_87 : decode cX10_groupOf 87 = .ok (.lcmp, 1) := by decide +kernel
theorem dX10_groupOf_88 : decode cX10_groupOf 88 = .ok (.ifCond .eq 7, 3) := by decide +kernel
theorem dX10_groupOf_91 : decode cX10_groupOf 91 = .ok (.iconst 1, 1) := by decide +kernel
theorem dX10_groupOf_92 : decode cX10_groupOf 92 = .ok (.goto 4, 3) := by decide +kernel
theorem dX10_groupOf_95 : decode cX10_groupOf 95 = .ok (.iconst 0, 1) := by decide +kernel
theorem dX10_groupOf_96 : decode cX10_groupOf 96 = .ok (.istore 4, 2) := by decide +kernel
theorem dX10_groupOf_98 : decode cX10_groupOf 98 = .ok (.iinc 5 1, 3) := by decide +kernel
theorem dX10_groupOf_101 : decode cX10_groupOf 101 = .ok (.goto (-91), 3) := by decide +kernel
theorem dX10_groupOf_104 : decode cX10_groupOf 104 = .ok (.lload_n 2, 1) := by decide +kernel
theorem dX10_groupOf_105 : decode cX10_groupOf 105 = .ok (.lreturn, 1) := by decide +kernel
theorem dX10_holds_0 : decode cX10_holds 0 = .ok (.lload_n 0, 1) := by decide +kernel
theorem dX10_holds_1 : decode cX10_holds 1 = .ok (.iload_n 2, 1) := by decide +kernel
theorem dX10_holds_2 : decode cX10_holds 2 = .ok (.lshr, 1) := by decide +kernel
theorem dX10_holds_3 : decode cX10_holds 3 = .ok (.lconst 1, 1) := by decide +kernel
theorem dX10_holds_4 : decode cX10_holds 4 = .ok (.land, 1) := by decide +kernel
theorem dX10_holds_5 : decode cX10_holds 5 = .ok (.lconst 0, 1) := by decide +kernel
theorem dX10_holds_6 : decode cX10_holds 6 = .ok (.lcmp, 1) := by decide +kernel
theorem dX10_holds_7 : decode cX10_holds 7 = .ok (.ifCond .eq 7, 3) := by decide +kernel
theorem dX10_holds_10 : decode cX10_holds 10 = .ok (.iconst 1, 1) := by decide +kernel
theorem dX10_holds_11 : decode cX10_holds 11 = .ok (.goto 4, 3) := by decide +kernel
theorem dX10_holds_14 : decode cX10_holds 14 = .ok (.iconst 0, 1) := by decide +kernel
theorem dX10_holds_15 : decode cX10_holds 15 = .ok (.ireturn, 1) := by decide +kernel
theorem dX10_spreadLowest_0 : decode cX10_spreadLowest 0 = .ok (.iconst 0, 1) := by decide +kernel
theorem dX10_spreadLowest_1 : decode cX10_spreadLowest 1 = .ok (.istore_n 1, 1) := by decide +kernel
theorem dX10_spreadLowest_2 : decode cX10_spreadLowest 2 = .ok (.iconst 0, 1) := by decide +kernel
theorem dX10_spreadLowest_3 : decode cX10_spreadLowest 3 = .ok (.istore_n 2, 1) := by decide +kernel
theorem dX10_spreadLowest_4 : decode cX10_spreadLowest 4 = .ok (.iload_n 2, 1) := by decide +kernel
theorem dX10_spreadLowest_5 : decode cX10_spreadLowest 5 = .ok (.aload_n 0, 1) := by decide +kernel
theorem dX10_spreadLowest_6 : decode cX10_spreadLowest 6 = .ok (.getfield 19, 3) := by decide +kernel
theorem dX10_spreadLowest_9 : decode cX10_spreadLowest 9 = .ok (.invokeinterface 85 1, 5) := by decide +kernel
theorem dX10_spreadLowest_14 : decode cX10_spreadLowest 14 = .ok (.if_icmp .ge 97, 3) := by decide +kernel
theorem dX10_spreadLowest_17 : decode cX10_spreadLowest 17 = .ok (.aload_n 0, 1) := by decide +kernel
theorem dX10_spreadLowest_18 : decode cX10_spreadLowest 18 = .ok (.getfield 19, 3) := by decide +kernel
theorem dX10_spreadLowest_21 : decode cX10_spreadLowest 21 = .ok (.iload_n 2, 1) := by decide +kernel
theorem dX10_spreadLowest_22 : decode cX10_spreadLowest 22 = .ok (.invokeinterface 184 2, 5) := by decide +kernel
theorem dX10_spreadLowest_27 : decode cX10_spreadLowest 27 = .ok (.checkcast 140, 3) := by decide +kernel
theorem dX10_spreadLowest_30 : decode cX10_spreadLowest 30 = .ok (.astore_n 3, 1) := by decide +kernel
theorem dX10_spreadLowest_31 : decode cX10_spreadLowest 31 = .ok (.iconst 0, 1) := by decide +kernel
theorem dX10_spreadLowest_32 : decode cX10_spreadLowest 32 = .ok (.istore 4, 2) := by decide +kernel
theorem dX10_spreadLowest_34 : decode cX10_spreadLowest 34 = .ok (.iload 4, 2) := by decide +kernel
theorem dX10_spreadLowest_36 : decode cX10_spreadLowest 36 = .ok (.aload_n 0, 1) := by decide +kernel
theorem dX10_spreadLowest_37 : decode cX10_spreadLowest 37 = .ok (.getfield 19, 3) := by decide +kernel
theorem dX10_spreadLowest_40 : decode cX10_spreadLowest 40 = .ok (.invokeinterface 85 1, 5) := by decide +kernel
theorem dX10_spreadLowest_45 : decode cX10_spreadLowest 45 = .ok (.if_icmp .ge 60, 3) := by decide +kernel
theorem dX10_spreadLowest_48 : decode cX10_spreadLowest 48 = .ok (.aload_n 0, 1) := by decide +kernel
theorem dX10_spreadLowest_49 : decode cX10_spreadLowest 49 = .ok (.getfield 19, 3) := by decide +kernel
theorem dX10_spreadLowest_52 : decode cX10_spreadLowest 52 = .ok (.iload 4, 2) := by decide +kernel
theorem dX10_spreadLowest_54 : decode cX10_spreadLowest 54 = .ok (.invokeinterface 184 2, 5) := by decide +kernel
theorem dX10_spreadLowest_59 : decode cX10_spreadLowest 59 = .ok (.checkcast 140, 3) := by decide +kernel
theorem dX10_spreadLowest_62 : decode cX10_spreadLowest 62 = .ok (.astore 5, 2) := by decide +kernel
theorem dX10_spreadLowest_64 : decode cX10_spreadLowest 64 = .ok (.aload_n 3, 1) := by decide +kernel
theorem dX10_spreadLowest_65 : decode cX10_spreadLowest 65 = .ok (.getfield 180, 3) := by decide +kernel
theorem dX10_spreadLowest_68 : decode cX10_spreadLowest 68 = .ok (.iload 4, 2) := by decide +kernel
theorem dX10_spreadLowest_70 : decode cX10_spreadLowest 70 = .ok (.invokestatic 401, 3) := by decide +kernel
theorem dX10_spreadLowest_73 : decode cX10_spreadLowest 73 = .ok (.ifCond .eq 26, 3) := by decide +kernel
theorem dX10_spreadLowest_76 : decode cX10_spreadLowest 76 = .ok (.aload 5, 2) := by decide +kernel
theorem dX10_spreadLowest_78 : decode cX10_spreadLowest 78 = .ok (.getfield 188, 3) := by decide +kernel
theorem dX10_spreadLowest_81 : decode cX10_spreadLowest 81 = .ok (.aload_n 3, 1) := by decide +kernel
theorem dX10_spreadLowest_82 : decode cX10_spreadLowest 82 = .ok (.getfield 188, 3) := by decide +kernel
theorem dX10_spreadLowest_85 : decode cX10_spreadLowest 85 = .ok (.if_icmp .ge 14, 3) := by decide +kernel
theorem dX10_spreadLowest_88 : decode cX10_spreadLowest 88 = .ok (.aload_n 3, 1) := by decide +kernel
theorem dX10_spreadLowest_89 : decode cX10_spreadLowest 89 = .ok (.aload 5, 2) := by decide +kernel
theorem dX10_spreadLowest_91 : decode cX10_spreadLowest 91 = .ok (.getfield 188, 3) := by decide +kernel
theorem dX10_spreadLowest_94 : decode cX10_spreadLowest 94 = .ok (.putfield 188, 3) := by decide +kernel
theorem dX10_spreadLowest_97 : decode cX10_spreadLowest 97 = .ok (.iconst 1, 1) := by decide +kernel
theorem dX10_spreadLowest_98 : decode cX10_spreadLowest 98 = .ok (.istore_n 1, 1) := by decide +kernel
theorem dX10_spreadLowest_99 : decode cX10_spreadLowest 99 = .ok (.iinc 4 1, 3) := by decide +kernel
theorem dX10_spreadLowest_102 : decode cX10_spreadLowest 102 = .ok (.goto (-68), 3) := by decide +kernel
theorem dX10_spreadLowest_105 : decode cX10_spreadLowest 105 = .ok (.iinc 2 1, 3) := by decide +kernel
theorem dX10_spreadLowest_108 : decode cX10_spreadLowest 108 = .ok (.goto (-104), 3) := by decide +kernel
theorem dX10_spreadLowest_111 : decode cX10_spreadLowest 111 = .ok (.iload_n 1, 1) := by decide +kernel
theorem dX10_spreadLowest_112 : decode cX10_spreadLowest 112 = .ok (.ireturn, 1) := by decide +kernel
theorem dX10_countFireballs_0 : decode cX10_countFireballs 0 = .ok (.iconst 0, 1) := by decide +kernel
theorem dX10_countFireballs_1 : decode cX10_countFireballs 1 = .ok (.istore 4, 2) := by decide +kernel
theorem dX10_countFireballs_3 : decode cX10_countFireballs 3 = .ok (.iconst 0, 1) := by decide +kernel
theorem dX10_countFireballs_4 : decode cX10_countFireballs 4 = .ok (.istore 5, 2) := by decide +kernel
theorem dX10_countFireballs_6 : decode cX10_countFireballs 6 = .ok (.iload 5, 2) := by decide +kernel
theorem dX10_countFireballs_8 : decode cX10_countFireballs 8 = .ok (.aload_n 0, 1) := by decide +kernel
theorem dX10_countFireballs_9 : decode cX10_countFireballs 9 = .ok (.getfield 26, 3) := by decide +kernel
theorem dX10_countFireballs_12 : decode cX10_countFireballs 12 = .ok (.invokeinterface 85 1, 5) := by decide +kernel
theorem dX10_countFireballs_17 : decode cX10_countFireballs 17 = .ok (.if_icmp .ge 65, 3) := by decide +kernel
theorem dX10_countFireballs_20 : decode cX10_countFireballs 20 = .ok (.aload_n 0, 1) := by decide +kernel
theorem dX10_countFireballs_21 : decode cX10_countFireballs 21 = .ok (.getfield 26, 3) := by decide +kernel
theorem dX10_countFireballs_24 : decode cX10_countFireballs 24 = .ok (.iload 5, 2) := by decide +kernel
theorem dX10_countFireballs_26 : decode cX10_countFireballs 26 = .ok (.invokeinterface 184 2, 5) := by decide +kernel
theorem dX10_countFireballs_31 : decode cX10_countFireballs 31 = .ok (.checkcast 68, 3) := by decide +kernel
theorem dX10_countFireballs_34 : decode cX10_countFireballs 34 = .ok (.astore 6, 2) := by decide +kernel
theorem dX10_countFireballs_36 : decode cX10_countFireballs 36 = .ok (.aload 6, 2) := by decide +kernel
theorem dX10_countFireballs_38 : decode cX10_countFireballs 38 = .ok (.invokevirtual 365, 3) := by decide +kernel
theorem dX10_countFireballs_41 : decode cX10_countFireballs 41 = .ok (.ifCond .eq 35, 3) := by decide +kernel
theorem dX10_countFireballs_44 : decode cX10_countFireballs 44 = .ok (.aload 6, 2) := by decide +kernel
theorem dX10_countFireballs_46 : decode cX10_countFireballs 46 = .ok (.getfield 419, 3) := by decide +kernel
theorem dX10_countFireballs_49 : decode cX10_countFireballs 49 = .ok (.iload_n 1, 1) := by decide +kernel
theorem dX10_countFireballs_50 : decode cX10_countFireballs 50 = .ok (.if_icmp .lt 26, 3) := by decide +kernel
theorem dX10_countFireballs_53 : decode cX10_countFireballs 53 = .ok (.aload 6, 2) := by decide +kernel
theorem dX10_countFireballs_55 : decode cX10_countFireballs 55 = .ok (.getfield 419, 3) := by decide +kernel
theorem dX10_countFireballs_58 : decode cX10_countFireballs 58 = .ok (.iload_n 2, 1) := by decide +kernel
theorem dX10_countFireballs_59 : decode cX10_countFireballs 59 = .ok (.if_icmp .gt 17, 3) := by decide +kernel
theorem dX10_countFireballs_62 : decode cX10_countFireballs 62 = .ok (.aload 6, 2) := by decide +kernel
theorem dX10_countFireballs_64 : decode cX10_countFireballs 64 = .ok (.getfield 420, 3) := by decide +kernel
theorem dX10_countFireballs_67 : decode cX10_countFireballs 67 = .ok (.iload_n 3, 1) := by decide +kernel
theorem dX10_countFireballs_68 : decode cX10_countFireballs 68 = .ok (.i2l, 1) := by decide +kernel
theorem dX10_countFireballs_69 : decode cX10_countFireballs 69 = .ok (.lcmp, 1) := by decide +kernel
theorem dX10_countFireballs_70 : decode cX10_countFireballs 70 = .ok (.ifCond .lt 6, 3) := by decide +kernel
theorem dX10_countFireballs_73 : decode cX10_countFireballs 73 = .ok (.iinc 4 1, 3) := by decide +kernel
theorem dX10_countFireballs_76 : decode cX10_countFireballs 76 = .ok (.iinc 5 1, 3) := by decide +kernel
theorem dX10_countFireballs_79 : decode cX10_countFireballs 79 = .ok (.goto (-73), 3) := by decide +kernel
theorem dX10_countFireballs_82 : decode cX10_countFireballs 82 = .ok (.iload 4, 2) := by decide +kernel
theorem dX10_countFireballs_84 : decode cX10_countFireballs 84 = .ok (.ireturn, 1) := by decide +kernel
theorem dX10_windOf_0 : decode cX10_windOf 0 = .ok (.iconst 0, 1) := by decide +kernel
theorem dX10_windOf_1 : decode cX10_windOf 1 = .ok (.istore_n 2, 1) := by decide +kernel
theorem dX10_windOf_2 : decode cX10_windOf 2 = .ok (.iload_n 2, 1) := by decide +kernel
theorem dX10_windOf_3 : decode cX10_windOf 3 = .ok (.aload_n 0, 1) := by decide +kernel
theorem dX10_windOf_4 : decode cX10_windOf 4 = .ok (.getfield 39, 3) := by decide +kernel
theorem dX10_windOf_7 : decode cX10_windOf 7 = .ok (.invokeinterface 85 1, 5) := by decide +kernel
theorem dX10_windOf_12 : decode cX10_windOf 12 = .ok (.if_icmp .ge 43, 3) := by decide +kernel
theorem dX10_windOf_15 : decode cX10_windOf 15 = .ok (.aload_n 0, 1) := by decide +kernel
theorem dX10_windOf_16 : decode cX10_windOf 16 = .ok (.getfield 39, 3) := by decide +kernel
theorem dX10_windOf_19 : decode cX10_windOf 19 = .ok (.iload_n 2, 1) := by decide +kernel
theorem dX10_windOf_20 : decode cX10_windOf 20 = .ok (.invokeinterface 184 2, 5) := by decide +kernel
theorem dX10_windOf_25 : decode cX10_windOf 25 = .ok (.checkcast 221, 3) := by decide +kernel
theorem dX10_windOf_28 : decode cX10_windOf 28 = .ok (.getfield 423, 3) := by decide +kernel
theorem dX10_windOf_31 : decode cX10_windOf 31 = .ok (.iload_n 1, 1) := by decide +kernel
theorem dX10_windOf_32 : decode cX10_windOf 32 = .ok (.if_icmp .ne 17, 3) := by decide +kernel
theorem dX10_windOf_35 : decode cX10_windOf 35 = .ok (.aload_n 0, 1) := by decide +kernel
theorem dX10_windOf_36 : decode cX10_windOf 36 = .ok (.getfield 39, 3) := by decide +kernel
theorem dX10_windOf_39 : decode cX10_windOf 39 = .ok (.iload_n 2, 1) := by decide +kernel
theorem dX10_windOf_40 : decode cX10_windOf 40 = .ok (.invokeinterface 184 2, 5) := by decide +kernel
theorem dX10_windOf_45 : decode cX10_windOf 45 = .ok (.checkcast 221, 3) := by decide +kernel
theorem dX10_windOf_48 : decode cX10_windOf 48 = .ok (.areturn, 1) := by decide +kernel
theorem dX10_windOf_49 : decode cX10_windOf 49 = .ok (.iinc 2 1, 3) := by decide +kernel
theorem dX10_windOf_52 : decode cX10_windOf 52 = .ok (.goto (-50), 3) := by decide +kernel
theorem dX10_windOf_55 : decode cX10_windOf 55 = .ok (.aconst_null, 1) := by decide +kernel
theorem dX10_windOf_56 : decode cX10_windOf 56 = .ok (.areturn, 1) := by decide +kernel
theorem dX10_wasWalked_0 : decode cX10_wasWalked 0 = .ok (.iconst 0, 1) := by decide +kernel
theorem dX10_wasWalked_1 : decode cX10_wasWalked 1 = .ok (.istore 4, 2) := by decide +kernel
theorem dX10_wasWalked_3 : decode cX10_wasWalked 3 = .ok (.iload 4, 2) := by decide +kernel
theorem dX10_wasWalked_5 : decode cX10_wasWalked 5 = .ok (.aload_n 0, 1) := by decide +kernel
theorem dX10_wasWalked_6 : decode cX10_wasWalked 6 = .ok (.getfield 42, 3) := by decide +kernel
theorem dX10_wasWalked_9 : decode cX10_wasWalked 9 = .ok (.invokeinterface 85 1, 5) := by decide +kernel
theorem dX10_wasWalked_14 : decode cX10_wasWalked 14 = .ok (.if_icmp .ge 34, 3) := by decide +kernel
theorem dX10_wasWalked_17 : decode cX10_wasWalked 17 = .ok (.aload_n 0, 1) := by decide +kernel
theorem dX10_wasWalked_18 : decode cX10_wasWalked 18 = .ok (.getfield 42, 3) := by decide +kernel
theorem dX10_wasWalked_21 : decode cX10_wasWalked 21 = .ok (.iload 4, 2) := by decide +kernel
theorem dX10_wasWalked_23 : decode cX10_wasWalked 23 = .ok (.invokeinterface 184 2, 5) := by decide +kernel
theorem dX10_wasWalked_28 : decode cX10_wasWalked 28 = .ok (.checkcast 233, 3) := by decide +kernel
theorem dX10_wasWalked_31 : decode cX10_wasWalked 31 = .ok (.iload_n 1, 1) := by decide +kernel
theorem dX10_wasWalked_32 : decode cX10_wasWalked 32 = .ok (.iload_n 2, 1) := by decide +kernel
theorem dX10_wasWalked_33 : decode cX10_wasWalked 33 = .ok (.iload_n 3, 1) := by decide +kernel
theorem dX10_wasWalked_34 : decode cX10_wasWalked 34 = .ok (.invokevirtual 424, 3) := by decide +kernel
theorem dX10_wasWalked_37 : decode cX10_wasWalked 37 = .ok (.ifCond .eq 5, 3) := by decide +kernel
theorem dX10_wasWalked_40 : decode cX10_wasWalked 40 = .ok (.iconst 1, 1) := by decide +kernel
theorem dX10_wasWalked_41 : decode cX10_wasWalked 41 = .ok (.ireturn, 1) := by decide +kernel
theorem dX10_wasWalked_42 : decode cX10_wasWalked 42 = .ok (.iinc 4 1, 3) := by decide +kernel
theorem dX10_wasWalked_45 : decode cX10_wasWalked 45 = .ok (.goto (-42), 3) := by decide +kernel
theorem dX10_wasWalked_48 : decode cX10_wasWalked 48 = .ok (.iconst 0, 1) := by decide +kernel
theorem dX10_wasWalked_49 : decode cX10_wasWalked 49 = .ok (.ireturn, 1) := by decide +kernel
theorem dX10_chanceIn_0 : decode cX10_chanceIn 0 = .ok (.aload_n 0, 1) := by decide +kernel
theorem dX10_chanceIn_1 : decode cX10_chanceIn 1 = .ok (.aload_n 1, 1) := by decide +kernel
theorem dX10_chanceIn_2 : decode cX10_chanceIn 2 = .ok (.getfield 419, 3) := by decide +kernel
theorem dX10_chanceIn_5 : decode cX10_chanceIn 5 = .ok (.invokevirtual 215, 3) := by decide +kernel
theorem dX10_chanceIn_8 : decode cX10_chanceIn 8 = .ok (.astore 5, 2) := by decide +kernel
theorem dX10_chanceIn_10 : decode cX10_chanceIn 10 = .ok (.aload 5, 2) := by decide +kernel
theorem dX10_chanceIn_12 : decode cX10_chanceIn 12 = .ok (.ifnonnull 16, 3) := by decide +kernel
theorem dX10_chanceIn_15 : decode cX10_chanceIn 15 = .ok (.aload_n 0, 1) := by decide +kernel
theorem dX10_chanceIn_16 : decode cX10_chanceIn 16 = .ok (.getfield 48, 3) := by decide +kernel
theorem dX10_chanceIn_19 : decode cX10_chanceIn 19 = .ok (.aload_n 1, 1) := by decide +kernel
theorem dX10_chanceIn_20 : decode cX10_chanceIn 20 = .ok (.iconst 0, 1) := by decide +kernel
theorem dX10_chanceIn_21 : decode cX10_chanceIn 21 = .ok (.iconst 0, 1) := by decide +kernel
theorem dX10_chanceIn_22 : decode cX10_chanceIn 22 = .ok (.invokevirtual 427, 3) := by decide +kernel
theorem dX10_chanceIn_25 : decode cX10_chanceIn 25 = .ok (.goto 21, 3) := by decide +kernel
theorem dX10_chanceIn_28 : decode cX10_chanceIn 28 = .ok (.aload_n 0, 1) := by decide +kernel
theorem dX10_chanceIn_29 : decode cX10_chanceIn 29 = .ok (.getfield 48, 3) := by decide +kernel
theorem dX10_chanceIn_32 : decode cX10_chanceIn 32 = .ok (.aload_n 1, 1) := by decide +kernel
theorem dX10_chanceIn_33 : decode cX10_chanceIn 33 = .ok (.aload 5, 2) := by decide +kernel
theorem dX10_chanceIn_35 : decode cX10_chanceIn 35 = .ok (.getfield 225, 3) := by decide +kernel
theorem dX10_chanceIn_38 : decode cX10_chanceIn 38 = .ok (.aload 5, 2) := by decide +kernel
theorem dX10_chanceIn_40 : decode cX10_chanceIn 40 = .ok (.getfield 228, 3) := by decide +kernel
theorem dX10_chanceIn_43 : decode cX10_chanceIn 43 = .ok (.invokevirtual 427, 3) := by decide +kernel
theorem dX10_chanceIn_46 : decode cX10_chanceIn 46 = .ok (.aload_n 0, 1) := by decide +kernel
theorem dX10_chanceIn_47 : decode cX10_chanceIn 47 = .ok (.aload_n 0, 1) := by decide +kernel
theorem dX10_chanceIn_48 : decode cX10_chanceIn 48 = .ok (.getfield 48, 3) := by decide +kernel
theorem dX10_chanceIn_51 : decode cX10_chanceIn 51 = .ok (.iload_n 3, 1) := by decide +kernel
theorem dX10_chanceIn_52 : decode cX10_chanceIn 52 = .ok (.iload 4, 2) := by decide +kernel
theorem dX10_chanceIn_54 : decode cX10_chanceIn 54 = .ok (.invokevirtual 431, 3) := by decide +kernel
theorem dX10_chanceIn_57 : decode cX10_chanceIn 57 = .ok (.iload_n 2, 1) := by decide +kernel
theorem dX10_chanceIn_58 : decode cX10_chanceIn 58 = .ok (.iload_n 3, 1) := by decide +kernel
theorem dX10_chanceIn_59 : decode cX10_chanceIn 59 = .ok (.iload 4, 2) := by decide +kernel
theorem dX10_chanceIn_61 : decode cX10_chanceIn 61 = .ok (.invokevirtual 435, 3) := by decide +kernel
theorem dX10_chanceIn_64 : decode cX10_chanceIn 64 = .ok (.ldc2_w 439, 3) := by decide +kernel
theorem dX10_chanceIn_67 : decode cX10_chanceIn 67 = .ok (.lmul, 1) := by decide +kernel
theorem dX10_chanceIn_68 : decode cX10_chanceIn 68 = .ok (.aload_n 0, 1) := by decide +kernel
theorem dX10_chanceIn_69 : decode cX10_chanceIn 69 = .ok (.iload_n 2, 1) := by decide +kernel
theorem dX10_chanceIn_70 : decode cX10_chanceIn 70 = .ok (.invokevirtual 441, 3) := by decide +kernel
theorem dX10_chanceIn_73 : decode cX10_chanceIn 73 = .ok (.invokestatic 444, 3) := by decide +kernel
theorem dX10_chanceIn_76 : decode cX10_chanceIn 76 = .ok (.lreturn, 1) := by decide +kernel
theorem dX10_weightLeft_0 : decode cX10_weightLeft 0 = .ok (.lload_n 1, 1) := by decide +kernel
theorem dX10_weightLeft_1 : decode cX10_weightLeft 1 = .ok (.lstore 6, 2) := by decide +kernel
theorem dX10_weightLeft_3 : decode cX10_weightLeft 3 = .ok (.iconst 0, 1) := by decide +kernel
theorem dX10_weightLeft_4 : decode cX10_weightLeft 4 = .ok (.istore 8, 2) := by decide +kernel
theorem dX10_weightLeft_6 : decode cX10_weightLeft 6 = .ok (.iload 8, 2) := by decide +kernel
theorem dX10_weightLeft_8 : decode cX10_weightLeft 8 = .ok (.aload_n 0, 1) := by decide +kernel
theorem dX10_weightLeft_9 : decode cX10_weightLeft 9 = .ok (.getfield 42, 3) := by decide +kernel
theorem dX10_weightLeft_12 : decode cX10_weightLeft 12 = .ok (.invokeinterface 85 1, 5) := by decide +kernel
theorem dX10_weightLeft_17 : decode cX10_weightLeft 17 = .ok (.if_icmp .ge 56, 3) := by decide +kernel
theorem dX10_weightLeft_20 : decode cX10_weightLeft 20 = .ok (.aload_n 0, 1) := by decide +kernel
theorem dX10_weightLeft_21 : decode cX10_weightLeft 21 = .ok (.getfield 42, 3) := by decide +kernel
theorem dX10_weightLeft_24 : decode cX10_weightLeft 24 = .ok (.iload 8, 2) := by decide +kernel
theorem dX10_weightLeft_26 : decode cX10_weightLeft 26 = .ok (.invokeinterface 184 2, 5) := by decide +kernel
theorem dX10_weightLeft_31 : decode cX10_weightLeft 31 = .ok (.checkcast 233, 3) := by decide +kernel
theorem dX10_weightLeft_34 : decode cX10_weightLeft 34 = .ok (.astore 9, 2) := by decide +kernel
theorem dX10_weightLeft_36 : decode cX10_weightLeft 36 = .ok (.aload 9, 2) := by decide +kernel
theorem dX10_weightLeft_38 : decode cX10_weightLeft 38 = .ok (.iload_n 3, 1) := by decide +kernel
theorem dX10_weightLeft_39 : decode cX10_weightLeft 39 = .ok (.iload 4, 2) := by decide +kernel
theorem dX10_weightLeft_41 : decode cX10_weightLeft 41 = .ok (.iload 5, 2) := by decide +kernel
theorem dX10_weightLeft_43 : decode cX10_weightLeft 43 = .ok (.invokevirtual 424, 3) := by decide +kernel
theorem dX10_weightLeft_46 : decode cX10_weightLeft 46 = .ok (.ifCond .eq 21, 3) := by decide +kernel
theorem dX10_weightLeft_49 : decode cX10_weightLeft 49 = .ok (.lload 6, 2) := by decide +kernel
theorem dX10_weightLeft_51 : decode cX10_weightLeft 51 = .ok (.bipush 100, 2) := by decide +kernel
theorem dX10_weightLeft_53 : decode cX10_weightLeft 53 = .ok (.aload 9, 2) := by decide +kernel
theorem dX10_weightLeft_55 : decode cX10_weightLeft 55 = .ok (.getfield 448, 3) := by decide +kernel
theorem dX10_weightLeft_58 : decode cX10_weightLeft 58 = .ok (.isub, 1) := by decide +kernel
theorem dX10_weightLeft_59 : decode cX10_weightLeft 59 = .ok (.i2l, 1) := by decide +kernel
theorem dX10_weightLeft_60 : decode cX10_weightLeft 60 = .ok (.lmul, 1) := by decide +kernel
theorem dX10_weightLeft_61 : decode cX10_weightLeft 61 = .ok (.ldc2_w 451, 3) := by decide +kernel
theorem dX10_weightLeft_64 : decode cX10_weightLeft 64 = .ok (.ldiv, 1) := by decide +kernel
theorem dX10_weightLeft_65 : decode cX10_weightLeft 65 = .ok (.lstore 6, 2) := by decide +kernel
theorem dX10_weightLeft_67 : decode cX10_weightLeft 67 = .ok (.iinc 8 1, 3) := by decide +kernel
theorem dX10_weightLeft_70 : decode cX10_weightLeft 70 = .ok (.goto (-64), 3) := by decide +kernel
theorem dX10_weightLeft_73 : decode cX10_weightLeft 73 = .ok (.lload 6, 2) := by decide +kernel
theorem dX10_weightLeft_75 : decode cX10_weightLeft 75 = .ok (.lreturn, 1) := by decide +kernel
theorem dX10_weightOfGround_0 : decode cX10_weightOfGround 0 = .ok (.aload_n 0, 1) := by decide +kernel
theorem dX10_weightOfGround_1 : decode cX10_weightOfGround 1 = .ok (.getfield 48, 3) := by decide +kernel
theorem dX10_weightOfGround_4 : decode cX10_weightOfGround 4 = .ok (.invokevirtual 453, 3) := by decide +kernel
theorem dX10_weightOfGround_7 : decode cX10_weightOfGround 7 = .ok (.lstore_n 2, 1) := by decide +kernel
theorem dX10_weightOfGround_8 : decode cX10_weightOfGround 8 = .ok (.iconst 0, 1) := by decide +kernel
theorem dX10_weightOfGround_9 : decode cX10_weightOfGround 9 = .ok (.istore 4, 2) := by decide +kernel
theorem dX10_weightOfGround_11 : decode cX10_weightOfGround 11 = .ok (.iload 4, 2) := by decide +kernel
theorem dX10_weightOfGround_13 : decode cX10_weightOfGround 13 = .ok (.aload_n 0, 1) := by decide +kernel
theorem dX10_weightOfGround_14 : decode cX10_weightOfGround 14 = .ok (.getfield 42, 3) := by decide +kernel
theorem dX10_weightOfGround_17 : decode cX10_weightOfGround 17 = .ok (.invokeinterface 85 1, 5) := by decide +kernel
theorem dX10_weightOfGround_22 : decode cX10_weightOfGround 22 = .ok (.if_icmp .ge 84, 3) := by decide +kernel
theorem dX10_weightOfGround_25 : decode cX10_weightOfGround 25 = .ok (.aload_n 0, 1) := by decide +kernel
theorem dX10_weightOfGround_26 : decode cX10_weightOfGround 26 = .ok (.getfield 42, 3) := by decide +kernel
theorem dX10_weightOfGround_29 : decode cX10_weightOfGround 29 = .ok (.iload 4, 2) := by decide +kernel
theorem dX10_weightOfGround_31 : decode cX10_weightOfGround 31 = .ok (.invokeinterface 184 2, 5) := by decide +kernel
theorem dX10_weightOfGround_36 : decode cX10_weightOfGround 36 = .ok (.checkcast 233, 3) := by decide +kernel
theorem dX10_weightOfGround_39 : decode cX10_weightOfGround 39 = .ok (.astore 5, 2) := by decide +kernel
theorem dX10_weightOfGround_41 : decode cX10_weightOfGround 41 = .ok (.aload 5, 2) := by decide +kernel
theorem dX10_weightOfGround_43 : decode cX10_weightOfGround 43 = .ok (.getfield 456, 3) := by decide +kernel
theorem dX10_weightOfGround_46 : decode cX10_weightOfGround 46 = .ok (.ifCond .eq 54, 3) := by decide +kernel
theorem dX10_weightOfGround_49 : decode cX10_weightOfGround 49 = .ok (.aload 5, 2) := by decide +kernel
theorem dX10_weightOfGround_51 : decode cX10_weightOfGround 51 = .ok (.getfield 459, 3) := by decide +kernel
theorem dX10_weightOfGround_54 : decode cX10_weightOfGround 54 = .ok (.iload_n 1, 1) := by decide +kernel
theorem dX10_weightOfGround_55 : decode cX10_weightOfGround 55 = .ok (.if_icmp .ne 45, 3) := by decide +kernel
theorem dX10_weightOfGround_58 : decode cX10_weightOfGround 58 = .ok (.aload_n 0, 1) := by decide +kernel
theorem dX10_weightOfGround_59 : decode cX10_weightOfGround 59 = .ok (.getfield 48, 3) := by decide +kernel
theorem dX10_weightOfGround_62 : decode cX10_weightOfGround 62 = .ok (.aload 5, 2) := by decide +kernel
theorem dX10_weightOfGround_64 : decode cX10_weightOfGround 64 = .ok (.getfield 460, 3) := by decide +kernel
theorem dX10_weightOfGround_67 : decode cX10_weightOfGround 67 = .ok (.aload 5, 2) := by decide +kernel
theorem dX10_weightOfGround_69 : decode cX10_weightOfGround 69 = .ok (.getfield 461, 3) := by decide +kernel
theorem dX10_weightOfGround_72 : decode cX10_weightOfGround 72 = .ok (.invokevirtual 431, 3) := by decide +kernel
theorem dX10_weightOfGround_75 : decode cX10_weightOfGround 75 = .ok (.lstore 6, 2) := by decide +kernel
theorem dX10_weightOfGround_77 : decode cX10_weightOfGround 77 = .ok (.lload_n 2, 1) := by decide +kernel
theorem dX10_weightOfGround_78 : decode cX10_weightOfGround 78 = .ok (.aload_n 0, 1) := by decide +kernel
theorem dX10_weightOfGround_79 : decode cX10_weightOfGround 79 = .ok (.lload 6, 2) := by decide +kernel
theorem dX10_weightOfGround_81 : decode cX10_weightOfGround 81 = .ok (.iload_n 1, 1) := by decide +kernel
theorem dX10_weightOfGround_82 : decode cX10_weightOfGround 82 = .ok (.aload 5, 2) := by decide +kernel
theorem dX10_weightOfGround_84 : decode cX10_weightOfGround 84 = .ok (.getfield 460, 3) := by decide +kernel
theorem dX10_weightOfGround_87 : decode cX10_weightOfGround 87 = .ok (.aload 5, 2) := by decide +kernel
theorem dX10_weightOfGround_89 : decode cX10_weightOfGround 89 = .ok (.getfield 461, 3) := by decide +kernel
theorem dX10_weightOfGround_92 : decode cX10_weightOfGround 92 = .ok (.invokevirtual 435, 3) := by decide +kernel
theorem dX10_weightOfGround_95 : decode cX10_weightOfGround 95 = .ok (.lload 6, 2) := by decide +kernel
theorem dX10_weightOfGround_97 : decode cX10_weightOfGround 97 = .ok (.lsub, 1) := by decide +kernel
theorem dX10_weightOfGround_98 : decode cX10_weightOfGround 98 = .ok (.ladd, 1) := by decide +kernel
theorem dX10_weightOfGround_99 : decode cX10_weightOfGround 99 = .ok (.lstore_n 2, 1) := by decide +kernel
theorem dX10_weightOfGround_100 : decode cX10_weightOfGround 100 = .ok (.iinc 4 1, 3) := by decide +kernel
theorem dX10_weightOfGround_103 : decode cX10_weightOfGround 103 = .ok (.goto (-92), 3) := by decide +kernel
theorem dX10_weightOfGround_106 : decode cX10_weightOfGround 106 = .ok (.lload_n 2, 1) := by decide +kernel
theorem dX10_weightOfGround_107 : decode cX10_weightOfGround 107 = .ok (.lreturn, 1) := by decide +kernel
theorem dX10_fallOf_0 : decode cX10_fallOf 0 = .ok (.iconst (-1), 1) := by decide +kernel
theorem dX10_fallOf_1 : decode cX10_fallOf 1 = .ok (.istore_n 2, 1) := by decide +kernel
theorem dX10_fallOf_2 : decode cX10_fallOf 2 = .ok (.lconst 0, 1) := by decide +kernel
theorem dX10_fallOf_3 : decode cX10_fallOf 3 = .ok (.lstore_n 3, 1) := by decide +kernel
theorem dX10_fallOf_4 : decode cX10_fallOf 4 = .ok (.iconst 0, 1) := by decide +kernel
theorem dX10_fallOf_5 : decode cX10_fallOf 5 = .ok (.istore 5, 2) := by decide +kernel
theorem dX10_fallOf_7 : decode cX10_fallOf 7 = .ok (.iload 5, 2) := by decide +kernel
theorem dX10_fallOf_9 : decode cX10_fallOf 9 = .ok (.aload_n 0, 1) := by decide +kernel
theorem dX10_fallOf_10 : decode cX10_fallOf 10 = .ok (.getfield 26, 3) := by decide +kernel
theorem dX10_fallOf_13 : decode cX10_fallOf 13 = .ok (.invokeinterface 85 1, 5) := by decide +kernel
theorem dX10_fallOf_18 : decode cX10_fallOf 18 = .ok (.if_icmp .ge 76, 3) := by decide +kernel
theorem dX10_fallOf_21 : decode cX10_fallOf 21 = .ok (.aload_n 0, 1) := by decide +kernel
theorem dX10_fallOf_22 : decode cX10_fallOf 22 = .ok (.getfield 26, 3) := by decide +kernel
theorem dX10_fallOf_25 : decode cX10_fallOf 25 = .ok (.iload 5, 2) := by decide +kernel
theorem dX10_fallOf_27 : decode cX10_fallOf 27 = .ok (.invokeinterface 184 2, 5) := by decide +kernel
theorem dX10_fallOf_32 : decode cX10_fallOf 32 = .ok (.checkcast 68, 3) := by decide +kernel
theorem dX10_fallOf_35 : decode cX10_fallOf 35 = .ok (.astore 6, 2) := by decide +kernel
theorem dX10_fallOf_37 : decode cX10_fallOf 37 = .ok (.aload 6, 2) := by decide +kernel
theorem dX10_fallOf_39 : decode cX10_fallOf 39 = .ok (.invokevirtual 365, 3) := by decide +kernel
theorem dX10_fallOf_42 : decode cX10_fallOf 42 = .ok (.ifCond .eq 46, 3) := by decide +kernel
theorem dX10_fallOf_45 : decode cX10_fallOf 45 = .ok (.aload 6, 2) := by decide +kernel
theorem dX10_fallOf_47 : decode cX10_fallOf 47 = .ok (.getfield 419, 3) := by decide +kernel
theorem dX10_fallOf_50 : decode cX10_fallOf 50 = .ok (.aload_n 1, 1) := by decide +kernel
theorem dX10_fallOf_51 : decode cX10_fallOf 51 = .ok (.getfield 462, 3) := by decide +kernel
theorem dX10_fallOf_54 : decode cX10_fallOf 54 = .ok (.if_icmp .gt 34, 3) := by decide +kernel
theorem dX10_fallOf_57 : decode cX10_fallOf 57 = .ok (.aload_n 0, 1) := by decide +kernel
theorem dX10_fallOf_58 : decode cX10_fallOf 58 = .ok (.aload 6, 2) := by decide +kernel
theorem dX10_fallOf_60 : decode cX10_fallOf 60 = .ok (.iload 5, 2) := by decide +kernel
theorem dX10_fallOf_62 : decode cX10_fallOf 62 = .ok (.aload_n 1, 1) := by decide +kernel
theorem dX10_fallOf_63 : decode cX10_fallOf 63 = .ok (.getfield 325, 3) := by decide +kernel
theorem dX10_fallOf_66 : decode cX10_fallOf 66 = .ok (.aload_n 1, 1) := by decide +kernel
theorem dX10_fallOf_67 : decode cX10_fallOf 67 = .ok (.getfield 326, 3) := by decide +kernel
theorem dX10_fallOf_70 : decode cX10_fallOf 70 = .ok (.invokevirtual 242, 3) := by decide +kernel
theorem dX10_fallOf_73 : decode cX10_fallOf 73 = .ok (.lstore 7, 2) := by decide +kernel
theorem dX10_fallOf_75 : decode cX10_fallOf 75 = .ok (.lload 7, 2) := by decide +kernel
theorem dX10_fallOf_77 : decode cX10_fallOf 77 = .ok (.lload_n 3, 1) := by decide +kernel
theorem dX10_fallOf_78 : decode cX10_fallOf 78 = .ok (.lcmp, 1) := by decide +kernel
theorem dX10_fallOf_79 : decode cX10_fallOf 79 = .ok (.ifCond .le 9, 3) := by decide +kernel
theorem dX10_fallOf_82 : decode cX10_fallOf 82 = .ok (.lload 7, 2) := by decide +kernel
theorem dX10_fallOf_84 : decode cX10_fallOf 84 = .ok (.lstore_n 3, 1) := by decide +kernel
theorem dX10_fallOf_85 : decode cX10_fallOf 85 = .ok (.iload 5, 2) := by decide +kernel
theorem dX10_fallOf_87 : decode cX10_fallOf 87 = .ok (.istore_n 2, 1) := by decide +kernel
theorem dX10_fallOf_88 : decode cX10_fallOf 88 = .ok (.iinc 5 1, 3) := by decide +kernel
theorem dX10_fallOf_91 : decode cX10_fallOf 91 = .ok (.goto (-84), 3) := by decide +kernel
theorem dX10_fallOf_94 : decode cX10_fallOf 94 = .ok (.iload_n 2, 1) := by decide +kernel
theorem dX10_fallOf_95 : decode cX10_fallOf 95 = .ok (.ireturn, 1) := by decide +kernel
theorem dX10_landOf_0 : decode cX10_landOf 0 = .ok (.iload_n 0, 1) := by decide +kernel
theorem dX10_landOf_1 : decode cX10_landOf 1 = .ok (.bipush 50, 2) := by decide +kernel
theorem dX10_landOf_3 : decode cX10_landOf 3 = .ok (.if_icmp .ge 7, 3) := by decide +kernel
theorem dX10_landOf_6 : decode cX10_landOf 6 = .ok (.iconst 0, 1) := by decide +kernel
theorem dX10_landOf_7 : decode cX10_landOf 7 = .ok (.goto 4, 3) := by decide +kernel
theorem dX10_landOf_10 : decode cX10_landOf 10 = .ok (.iconst 1, 1) := by decide +kernel
theorem dX10_landOf_11 : decode cX10_landOf 11 = .ok (.iload_n 1, 1) := by decide +kernel
theorem dX10_landOf_12 : decode cX10_landOf 12 = .ok (.bipush 50, 2) := by decide +kernel
theorem dX10_landOf_14 : decode cX10_landOf 14 = .ok (.if_icmp .ge 7, 3) := by decide +kernel
theorem dX10_landOf_17 : decode cX10_landOf 17 = .ok (.iconst 0, 1) := by decide +kernel
theorem dX10_landOf_18 : decode cX10_landOf 18 = .ok (.goto 4, 3) := by decide +kernel
theorem dX10_landOf_21 : decode cX10_landOf 21 = .ok (.iconst 2, 1) := by decide +kernel
theorem dX10_landOf_22 : decode cX10_landOf 22 = .ok (.iadd, 1) := by decide +kernel
theorem dX10_landOf_23 : decode cX10_landOf 23 = .ok (.ireturn, 1) := by decide +kernel
theorem dX10_lawIn_0 : decode cX10_lawIn 0 = .ok (.iload_n 1, 1) := by decide +kernel
theorem dX10_lawIn_1 : decode cX10_lawIn 1 = .ok (.ifCond .lt 21, 3) := by decide +kernel
theorem dX10_lawIn_4 : decode cX10_lawIn 4 = .ok (.iload_n 1, 1) := by decide +kernel
theorem dX10_lawIn_5 : decode cX10_lawIn 5 = .ok (.aload_n 0, 1) := by decide +kernel
theorem dX10_lawIn_6 : decode cX10_lawIn 6 = .ok (.getfield 61, 3) := by decide +kernel
theorem dX10_lawIn_9 : decode cX10_lawIn 9 = .ok (.arraylength, 1) := by decide +kernel
theorem dX10_lawIn_10 : decode cX10_lawIn 10 = .ok (.if_icmp .ge 12, 3) := by decide +kernel
theorem dX10_lawIn_13 : decode cX10_lawIn 13 = .ok (.aload_n 0, 1) := by decide +kernel
theorem dX10_lawIn_14 : decode cX10_lawIn 14 = .ok (.getfield 61, 3) := by decide +kernel
theorem dX10_lawIn_17 : decode cX10_lawIn 17 = .ok (.iload_n 1, 1) := by decide +kernel
theorem dX10_lawIn_18 : decode cX10_lawIn 18 = .ok (.iaload, 1) := by decide +kernel
theorem dX10_lawIn_19 : decode cX10_lawIn 19 = .ok (.goto 4, 3) := by decide +kernel
theorem dX10_lawIn_22 : decode cX10_lawIn 22 = .ok (.iconst 0, 1) := by decide +kernel
theorem dX10_lawIn_23 : decode cX10_lawIn 23 = .ok (.ireturn, 1) := by decide +kernel
theorem dX10_divided_0 : decode cX10_divided 0 = .ok (.lload_n 2, 1) := by decide +kernel
theorem dX10_divided_1 : decode cX10_divided 1 = .ok (.lconst 0, 1) := by decide +kernel
theorem dX10_divided_2 : decode cX10_divided 2 = .ok (.lcmp, 1) := by decide +kernel
theorem dX10_divided_3 : decode cX10_divided 3 = .ok (.ifCond .ne 7, 3) := by decide +kernel
theorem dX10_divided_6 : decode cX10_divided 6 = .ok (.lconst 0, 1) := by decide +kernel
theorem dX10_divided_7 : decode cX10_divided 7 = .ok (.goto 8, 3) := by decide +kernel
theorem dX10_divided_10 : decode cX10_divided 10 = .ok (.lload_n 0, 1) := by decide +kernel
theorem dX10_divided_11 : decode cX10_divided 11 = .ok (.lload_n 2, 1) := by decide +kernel
theorem dX10_divided_12 : decode cX10_divided 12 = .ok (.invokestatic 469, 3) := by decide +kernel
theorem dX10_divided_15 : decode cX10_divided 15 = .ok (.lreturn, 1) := by decide +kernel
theorem dX10_rootOf_0 : decode cX10_rootOf 0 = .ok (.lconst 0, 1) := by decide +kernel
theorem dX10_rootOf_1 : decode cX10_rootOf 1 = .ok (.lstore_n 2, 1) := by decide +kernel
theorem dX10_rootOf_2 : decode cX10_rootOf 2 = .ok (.bipush 30, 2) := by decide +kernel
theorem dX10_rootOf_4 : decode cX10_rootOf 4 = .ok (.istore 4, 2) := by decide +kernel
theorem dX10_rootOf_6 : decode cX10_rootOf 6 = .ok (.iload 4, 2) := by decide +kernel
theorem dX10_rootOf_8 : decode cX10_rootOf 8 = .ok (.ifCond .lt 30, 3) := by decide +kernel
theorem dX10_rootOf_11 : decode cX10_rootOf 11 = .ok (.lload_n 2, 1) := by decide +kernel
theorem dX10_rootOf_12 : decode cX10_rootOf 12 = .ok (.lconst 1, 1) := by decide +kernel
theorem dX10_rootOf_13 : decode cX10_rootOf 13 = .ok (.iload 4, 2) := by decide +kernel
theorem dX10_rootOf_15 : decode cX10_rootOf 15 = .ok (.lshl, 1) := by decide +kernel
theorem dX10_rootOf_16 : decode cX10_rootOf 16 = .ok (.ladd, 1) := by decide +kernel
theorem dX10_rootOf_17 : decode cX10_rootOf 17 = .ok (.lstore 5, 2) := by decide +kernel
theorem dX10_rootOf_19 : decode cX10_rootOf 19 = .ok (.lload 5, 2) := by decide +kernel
theorem dX10_rootOf_21 : decode cX10_rootOf 21 = .ok (.lload 5, 2) := by decide +kernel
theorem dX10_rootOf_23 : decode cX10_rootOf 23 = .ok (.lmul, 1) := by decide +kernel
theorem dX10_rootOf_24 : decode cX10_rootOf 24 = .ok (.lload_n 0, 1) := by decide +kernel
theorem dX10_rootOf_25 : decode cX10_rootOf 25 = .ok (.lcmp, 1) := by decide +kernel
theorem dX10_rootOf_26 : decode cX10_rootOf 26 = .ok (.ifCond .gt 6, 3) := by decide +kernel
theorem dX10_rootOf_29 : decode cX10_rootOf 29 = .ok (.lload 5, 2) := by decide +kernel
theorem dX10_rootOf_31 : decode cX10_rootOf 31 = .ok (.lstore_n 2, 1) := by decide +kernel
theorem dX10_rootOf_32 : decode cX10_rootOf 32 = .ok (.iinc 4 (-1), 3) := by decide +kernel
theorem dX10_rootOf_35 : decode cX10_rootOf 35 = .ok (.goto (-29), 3) := by decide +kernel
theorem dX10_rootOf_38 : decode cX10_rootOf 38 = .ok (.lload_n 2, 1) := by decide +kernel
theorem dX10_rootOf_39 : decode cX10_rootOf 39 = .ok (.lreturn, 1) := by decide +kernel
theorem dJ9_floorDiv_f86c9_0 : decode cJ9_floorDiv_f86c9 0 = .ok (.lload_n 0, 1) := by decide +kernel
theorem dJ9_floorDiv_f86c9_1 : decode cJ9_floorDiv_f86c9 1 = .ok (.lload_n 2, 1) := by decide +kernel
theorem dJ9_floorDiv_f86c9_2 : decode cJ9_floorDiv_f86c9 2 = .ok (.ldiv, 1) := by decide +kernel
theorem dJ9_floorDiv_f86c9_3 : decode cJ9_floorDiv_f86c9 3 = .ok (.lstore 4, 2) := by decide +kernel
theorem dJ9_floorDiv_f86c9_5 : decode cJ9_floorDiv_f86c9 5 = .ok (.lload_n 0, 1) := by decide +kernel
theorem dJ9_floorDiv_f86c9_6 : decode cJ9_floorDiv_f86c9 6 = .ok (.lload_n 2, 1) := by decide +kernel
theorem dJ9_floorDiv_f86c9_7 : decode cJ9_floorDiv_f86c9 7 = .ok (.lxor, 1) := by decide +kernel
theorem dJ9_floorDiv_f86c9_8 : decode cJ9_floorDiv_f86c9 8 = .ok (.lconst 0, 1) := by decide +kernel
theorem dJ9_floorDiv_f86c9_9 : decode cJ9_floorDiv_f86c9 9 = .ok (.lcmp, 1) := by decide +kernel
theorem dJ9_floorDiv_f86c9_10 : decode cJ9_floorDiv_f86c9 10 = .ok (.ifCond .ge 17, 3) := by decide +kernel
theorem dJ9_floorDiv_f86c9_13 : decode cJ9_floorDiv_f86c9 13 = .ok (.lload 4, 2) := by decide +kernel
theorem dJ9_floorDiv_f86c9_15 : decode cJ9_floorDiv_f86c9 15 = .ok (.lload_n 2, 1) := by decide +kernel
theorem dJ9_floorDiv_f86c9_16 : decode cJ9_floorDiv_f86c9 16 = .ok (.lmul, 1) := by decide +kernel
theorem dJ9_floorDiv_f86c9_17 : decode cJ9_floorDiv_f86c9 17 = .ok (.lload_n 0, 1) := by decide +kernel
theorem dJ9_floorDiv_f86c9_18 : decode cJ9_floorDiv_f86c9 18 = .ok (.lcmp, 1) := by decide +kernel
theorem dJ9_floorDiv_f86c9_19 : decode cJ9_floorDiv_f86c9 19 = .ok (.ifCond .eq 8, 3) := by decide +kernel
theorem dJ9_floorDiv_f86c9_22 : decode cJ9_floorDiv_f86c9 22 = .ok (.lload 4, 2) := by decide +kernel
theorem dJ9_floorDiv_f86c9_24 : decode cJ9_floorDiv_f86c9 24 = .ok (.lconst 1, 1) := by decide +kernel
theorem dJ9_floorDiv_f86c9_25 : decode cJ9_floorDiv_f86c9 25 = .ok (.lsub, 1) := by decide +kernel
theorem dJ9_floorDiv_f86c9_26 : decode cJ9_floorDiv_f86c9 26 = .ok (.lreturn, 1) := by decide +kernel
theorem dJ9_floorDiv_f86c9_27 : decode cJ9_floorDiv_f86c9 27 = .ok (.lload 4, 2) := by decide +kernel
theorem dJ9_floorDiv_f86c9_29 : decode cJ9_floorDiv_f86c9 29 = .ok (.lreturn, 1) := by decide +kernel
theorem dJ9_abs_0f7a4_0 : decode cJ9_abs_0f7a4 0 = .ok (.iload_n 0, 1) := by decide +kernel
theorem dJ9_abs_0f7a4_1 : decode cJ9_abs_0f7a4 1 = .ok (.ifCond .ge 8, 3) := by decide +kernel
theorem dJ9_abs_0f7a4_4 : decode cJ9_abs_0f7a4 4 = .ok (.iload_n 0, 1) := by decide +kernel
theorem dJ9_abs_0f7a4_5 : decode cJ9_abs_0f7a4 5 = .ok (.ineg, 1) := by decide +kernel
theorem dJ9_abs_0f7a4_6 : decode cJ9_abs_0f7a4 6 = .ok (.goto 4, 3) := by decide +kernel
theorem dJ9_abs_0f7a4_9 : decode cJ9_abs_0f7a4 9 = .ok (.iload_n 0, 1) := by decide +kernel
theorem dJ9_abs_0f7a4_10 : decode cJ9_abs_0f7a4 10 = .ok (.ireturn, 1) := by decide +kernel
theorem dJ9_abs_067f4_0 : decode cJ9_abs_067f4 0 = .ok (.lload_n 0, 1) := by decide +kernel
theorem dJ9_abs_067f4_1 : decode cJ9_abs_067f4 1 = .ok (.lconst 0, 1) := by decide +kernel
theorem dJ9_abs_067f4_2 : decode cJ9_abs_067f4 2 = .ok (.lcmp, 1) := by decide +kernel
theorem dJ9_abs_067f4_3 : decode cJ9_abs_067f4 3 = .ok (.ifCond .ge 8, 3) := by decide +kernel
theorem dJ9_abs_067f4_6 : decode cJ9_abs_067f4 6 = .ok (.lload_n 0, 1) := by decide +kernel
theorem dJ9_abs_067f4_7 : decode cJ9_abs_067f4 7 = .ok (.lneg, 1) := by decide +kernel
theorem dJ9_abs_067f4_8 : decode cJ9_abs_067f4 8 = .ok (.goto 4, 3) := by decide +kernel
theorem dJ9_abs_067f4_11 : decode cJ9_abs_067f4 11 = .ok (.lload_n 0, 1) := by decide +kernel
theorem dJ9_abs_067f4_12 : decode cJ9_abs_067f4 12 = .ok (.lreturn, 1) := by decide +kernel
theorem dJ9_max_7cf53_0 : decode cJ9_max_7cf53 0 = .ok (.iload_n 0, 1) := by decide +kernel
theorem dJ9_max_7cf53_1 : decode cJ9_max_7cf53 1 = .ok (.iload_n 1, 1) := by decide +kernel
theorem dJ9_max_7cf53_2 : decode cJ9_max_7cf53 2 = .ok (.if_icmp .lt 7, 3) := by decide +kernel
theorem dJ9_max_7cf53_5 : decode cJ9_max_7cf53 5 = .ok (.iload_n 0, 1) := by decide +kernel
theorem dJ9_max_7cf53_6 : decode cJ9_max_7cf53 6 = .ok (.goto 4, 3) := by decide +kernel
theorem dJ9_max_7cf53_9 : decode cJ9_max_7cf53 9 = .ok (.iload_n 1, 1) := by decide +kernel
theorem dJ9_max_7cf53_10 : decode cJ9_max_7cf53 10 = .ok (.ireturn, 1) := by decide +kernel
theorem dJ9_max_f86c9_0 : decode cJ9_max_f86c9 0 = .ok (.lload_n 0, 1) := by decide +kernel
theorem dJ9_max_f86c9_1 : decode cJ9_max_f86c9 1 = .ok (.lload_n 2, 1) := by decide +kernel
theorem dJ9_max_f86c9_2 : decode cJ9_max_f86c9 2 = .ok (.lcmp, 1) := by decide +kernel
theorem dJ9_max_f86c9_3 : decode cJ9_max_f86c9 3 = .ok (.ifCond .lt 7, 3) := by decide +kernel
theorem dJ9_max_f86c9_6 : decode cJ9_max_f86c9 6 = .ok (.lload_n 0, 1) := by decide +kernel
theorem dJ9_max_f86c9_7 : decode cJ9_max_f86c9 7 = .ok (.goto 4, 3) := by decide +kernel
theorem dJ9_max_f86c9_10 : decode cJ9_max_f86c9 10 = .ok (.lload_n 2, 1) := by decide +kernel
theorem dJ9_max_f86c9_11 : decode cJ9_max_f86c9 11 = .ok (.lreturn, 1) := by decide +kernel
theorem dJ9_min_7cf53_0 : decode cJ9_min_7cf53 0 = .ok (.iload_n 0, 1) := by decide +kernel
theorem dJ9_min_7cf53_1 : decode cJ9_min_7cf53 1 = .ok (.iload_n 1, 1) := by decide +kernel
theorem dJ9_min_7cf53_2 : decode cJ9_min_7cf53 2 = .ok (.if_icmp .gt 7, 3) := by decide +kernel
theorem dJ9_min_7cf53_5 : decode cJ9_min_7cf53 5 = .ok (.iload_n 0, 1) := by decide +kernel
theorem dJ9_min_7cf53_6 : decode cJ9_min_7cf53 6 = .ok (.goto 4, 3) := by decide +kernel
theorem dJ9_min_7cf53_9 : decode cJ9_min_7cf53 9 = .ok (.iload_n 1, 1) := by decide +kernel
theorem dJ9_min_7cf53_10 : decode cJ9_min_7cf53 10 = .ok (.ireturn, 1) := by decide +kernel
theorem dJ9_min_f86c9_0 : decode cJ9_min_f86c9 0 = .ok (.lload_n 0, 1) := by decide +kernel
theorem dJ9_min_f86c9_1 : decode cJ9_min_f86c9 1 = .ok (.lload_n 2, 1) := by decide +kernel
theorem dJ9_min_f86c9_2 : decode cJ9_min_f86c9 2 = .ok (.lcmp, 1) := by decide +kernel
theorem dJ9_min_f86c9_3 : decode cJ9_min_f86c9 3 = .ok (.ifCond .gt 7, 3) := by decide +kernel
theorem dJ9_min_f86c9_6 : decode cJ9_min_f86c9 6 = .ok (.lload_n 0, 1) := by decide +kernel
theorem dJ9_min_f86c9_7 : decode cJ9_min_f86c9 7 = .ok (.goto 4, 3) := by decide +kernel
theorem dJ9_min_f86c9_10 : decode cJ9_min_f86c9 10 = .ok (.lload_n 2, 1) := by decide +kernel
theorem dJ9_min_f86c9_11 : decode cJ9_min_f86c9 11 = .ok (.lreturn, 1) := by decide +kernel
theorem dJxa1e45_init_da8c8_0 : decode cJxa1e45_init_da8c8 0 = .ok (.aload_n 0, 1) := by decide +kernel
theorem dJxa1e45_init_da8c8_1 : decode cJxa1e45_init_da8c8 1 = .ok (.invokespecial 1, 3) := by decide +kernel
theorem dJxa1e45_init_da8c8_4 : decode cJxa1e45_init_da8c8 4 = .ok (.return_, 1) := by decide +kernel
theorem dJxc12de_init_da8c8_0 : decode cJxc12de_init_da8c8 0 = .ok (.aload_n 0, 1) := by decide +kernel
theorem dJxc12de_init_da8c8_1 : decode cJxc12de_init_da8c8 1 = .ok (.invokespecial 1, 3) := by decide +kernel
theorem dJxc12de_init_da8c8_4 : decode cJxc12de_init_da8c8 4 = .ok (.aload_n 0, 1) := by decide +kernel
theorem dJxc12de_init_da8c8_5 : decode cJxc12de_init_da8c8 5 = .ok (.iconst 0, 1) := by decide +kernel
theorem dJxc12de_init_da8c8_6 : decode cJxc12de_init_da8c8 6 = .ok (.putfield 7, 3) := by decide +kernel
theorem dJxc12de_init_da8c8_9 : decode cJxc12de_init_da8c8 9 = .ok (.return_, 1) := by decide +kernel
theorem dJx4a65c_init_da8c8_0 : decode cJx4a65c_init_da8c8 0 = .ok (.aload_n 0, 1) := by decide +kernel
theorem dJx4a65c_init_da8c8_1 : decode cJx4a65c_init_da8c8 1 = .ok (.invokespecial 1, 3) := by decide +kernel
theorem dJx4a65c_init_da8c8_4 : decode cJx4a65c_init_da8c8 4 = .ok (.aload_n 0, 1) := by decide +kernel
theorem dJx4a65c_init_da8c8_5 : decode cJx4a65c_init_da8c8 5 = .ok (.getstatic 39, 3) := by decide +kernel
theorem dJx4a65c_init_da8c8_8 : decode cJx4a65c_init_da8c8 8 = .ok (.putfield 9, 3) := by decide +kernel
theorem dJx4a65c_init_da8c8_11 : decode cJx4a65c_init_da8c8 11 = .ok (.return_, 1) := by decide +kernel
theorem dJx4a65c_grow_92f84_0 : decode cJx4a65c_grow_92f84 0 = .ok (.aload_n 0, 1) := by decide +kernel
theorem dJx4a65c_grow_92f84_1 : decode cJx4a65c_grow_92f84 1 = .ok (.getfield 9, 3) := by decide +kernel
theorem dJx4a65c_grow_92f84_4 : decode cJx4a65c_grow_92f84 4 = .ok (.arraylength, 1) := by decide +kernel
theorem dJx4a65c_grow_92f84_5 : decode cJx4a65c_grow_92f84 5 = .ok (.istore_n 2, 1) := by decide +kernel
theorem dJx4a65c_grow_92f84_6 : decode cJx4a65c_grow_92f84 6 = .ok (.iload_n 2, 1) := by decide +kernel
theorem dJx4a65c_grow_92f84_7 : decode cJx4a65c_grow_92f84 7 = .ok (.ifCond .gt 13, 3) := by decide +kernel
theorem dJx4a65c_grow_92f84_10 : decode cJx4a65c_grow_92f84 10 = .ok (.aload_n 0, 1) := by decide +kernel
theorem dJx4a65c_grow_92f84_11 : decode cJx4a65c_grow_92f84 11 = .ok (.getfield 9, 3) := by decide +kernel
theorem dJx4a65c_grow_92f84_14 : decode cJx4a65c_grow_92f84 14 = .ok (.getstatic 39, 3) := by decide +kernel
theorem dJx4a65c_grow_92f84_17 : decode cJx4a65c_grow_92f84 17 = .ok (.if_acmp .eq 28, 3) := by decide +kernel
theorem dJx4a65c_grow_92f84_20 : decode cJx4a65c_grow_92f84 20 = .ok (.iload_n 2, 1) := by decide +kernel
theorem dJx4a65c_grow_92f84_21 : decode cJx4a65c_grow_92f84 21 = .ok (.iload_n 1, 1) := by decide +kernel
theorem dJx4a65c_grow_92f84_22 : decode cJx4a65c_grow_92f84 22 = .ok (.iload_n 2, 1) := by decide +kernel
theorem dJx4a65c_grow_92f84_23 : decode cJx4a65c_grow_92f84 23 = .ok (.isub, 1) := by decide +kernel
theorem dJx4a65c_grow_92f84_24 : decode cJx4a65c_grow_92f84 24 = .ok (.iload_n 2, 1) := by decide +kernel
theorem dJx4a65c_grow_92f84_25 : decode cJx4a65c_grow_92f84 25 = .ok (.iconst 1, 1) := by decide +kernel
theorem dJx4a65c_grow_92f84_26 : decode cJx4a65c_grow_92f84 26 = .ok (.ishr, 1) := by decide +kernel
theorem dJx4a65c_grow_92f84_27 : decode cJx4a65c_grow_92f84 27 = .ok (.invokestatic 73, 3) := by decide +kernel
theorem dJx4a65c_grow_92f84_30 : decode cJx4a65c_grow_92f84 30 = .ok (.istore_n 3, 1) := by decide +kernel
theorem dJx4a65c_grow_92f84_31 : decode cJx4a65c_grow_92f84 31 = .ok (.aload_n 0, 1) := by decide +kernel
theorem dJx4a65c_grow_92f84_32 : decode cJx4a65c_grow_92f84 32 = .ok (.aload_n 0, 1) := by decide +kernel
theorem dJx4a65c_grow_92f84_33 : decode cJx4a65c_grow_92f84 33 = .ok (.getfield 9, 3) := by decide +kernel
theorem dJx4a65c_grow_92f84_36 : decode cJx4a65c_grow_92f84 36 = .ok (.iload_n 3, 1) := by decide +kernel
theorem dJx4a65c_grow_92f84_37 : decode cJx4a65c_grow_92f84 37 = .ok (.invokestatic 66, 3) := by decide +kernel
theorem dJx4a65c_grow_92f84_40 : decode cJx4a65c_grow_92f84 40 = .ok (.dup_x1, 1) := by decide +kernel
theorem dJx4a65c_grow_92f84_41 : decode cJx4a65c_grow_92f84 41 = .ok (.putfield 9, 3) := by decide +kernel
theorem dJx4a65c_grow_92f84_44 : decode cJx4a65c_grow_92f84 44 = .ok (.areturn, 1) := by decide +kernel
theorem dJx4a65c_grow_92f84_45 : decode cJx4a65c_grow_92f84 45 = .ok (.aload_n 0, 1) := by decide +kernel
theorem dJx4a65c_grow_92f84_46 : decode cJx4a65c_grow_92f84 46 = .ok (.bipush 10, 2) := by decide +kernel
theorem dJx4a65c_grow_92f84_48 : decode cJx4a65c_grow_92f84 48 = .ok (.iload_n 1, 1) := by decide +kernel
theorem dJx4a65c_grow_92f84_49 : decode cJx4a65c_grow_92f84 49 = .ok (.invokestatic 79, 3) := by decide +kernel
theorem dJx4a65c_grow_92f84_52 : decode cJx4a65c_grow_92f84 52 = .ok (.anewarray 7, 3) := by decide +kernel
theorem dJx4a65c_grow_92f84_55 : decode cJx4a65c_grow_92f84 55 = .ok (.dup_x1, 1) := by decide +kernel
theorem dJx4a65c_grow_92f84_56 : decode cJx4a65c_grow_92f84 56 = .ok (.putfield 9, 3) := by decide +kernel
theorem dJx4a65c_grow_92f84_59 : decode cJx4a65c_grow_92f84 59 = .ok (.areturn, 1) := by decide +kernel
theorem dJx4a65c_grow_d5877_0 : decode cJx4a65c_grow_d5877 0 = .ok (.aload_n 0, 1) := by decide +kernel
theorem dJx4a65c_grow_d5877_1 : decode cJx4a65c_grow_d5877 1 = .ok (.aload_n 0, 1) := by decide +kernel
theorem dJx4a65c_grow_d5877_2 : decode cJx4a65c_grow_d5877 2 = .ok (.getfield 48, 3) := by decide +kernel
theorem dJx4a65c_grow_d5877_5 : decode cJx4a65c_grow_d5877 5 = .ok (.iconst 1, 1) := by decide +kernel
theorem dJx4a65c_grow_d5877_6 : decode cJx4a65c_grow_d5877 6 = .ok (.iadd, 1) := by decide +kernel
theorem dJx4a65c_grow_d5877_7 : decode cJx4a65c_grow_d5877 7 = .ok (.invokevirtual 69, 3) := by decide +kernel
theorem dJx4a65c_grow_d5877_10 : decode cJx4a65c_grow_d5877 10 = .ok (.areturn, 1) := by decide +kernel
theorem dJx4a65c_size_8abf5_0 : decode cJx4a65c_size_8abf5 0 = .ok (.aload_n 0, 1) := by decide +kernel
theorem dJx4a65c_size_8abf5_1 : decode cJx4a65c_size_8abf5 1 = .ok (.getfield 48, 3) := by decide +kernel
theorem dJx4a65c_size_8abf5_4 : decode cJx4a65c_size_8abf5 4 = .ok (.ireturn, 1) := by decide +kernel
theorem dJx4a65c_elementData_915e3_0 : decode cJx4a65c_elementData_915e3 0 = .ok (.aload_n 0, 1) := by decide +kernel
theorem dJx4a65c_elementData_915e3_1 : decode cJx4a65c_elementData_915e3 1 = .ok (.getfield 9, 3) := by decide +kernel
theorem dJx4a65c_elementData_915e3_4 : decode cJx4a65c_elementData_915e3 4 = .ok (.iload_n 1, 1) := by decide +kernel
theorem dJx4a65c_elementData_915e3_5 : decode cJx4a65c_elementData_915e3 5 = .ok (.aaload, 1) := by decide +kernel
theorem dJx4a65c_elementData_915e3_6 : decode cJx4a65c_elementData_915e3 6 = .ok (.areturn, 1) := by decide +kernel
theorem dJx4a65c_get_915e3_0 : decode cJx4a65c_get_915e3 0 = .ok (.iload_n 1, 1) := by decide +kernel
theorem dJx4a65c_get_915e3_1 : decode cJx4a65c_get_915e3 1 = .ok (.aload_n 0, 1) := by decide +kernel
theorem dJx4a65c_get_915e3_2 : decode cJx4a65c_get_915e3 2 = .ok (.getfield 48, 3) := by decide +kernel
theorem dJx4a65c_get_915e3_5 : decode cJx4a65c_get_915e3 5 = .ok (.invokestatic 118, 3) := by decide +kernel
theorem dJx4a65c_get_915e3_8 : decode cJx4a65c_get_915e3 8 = .ok (.pop, 1) := by decide +kernel
theorem dJx4a65c_get_915e3_9 : decode cJx4a65c_get_915e3 9 = .ok (.aload_n 0, 1) := by decide +kernel
theorem dJx4a65c_get_915e3_10 : decode cJx4a65c_get_915e3 10 = .ok (.iload_n 1, 1) := by decide +kernel
theorem dJx4a65c_get_915e3_11 : decode cJx4a65c_get_915e3 11 = .ok (.invokevirtual 123, 3) := by decide +kernel
theorem dJx4a65c_get_915e3_14 : decode cJx4a65c_get_915e3 14 = .ok (.areturn, 1) := by decide +kernel
theorem dJx4a65c_add_72be8_0 : decode cJx4a65c_add_72be8 0 = .ok (.iload_n 3, 1) := by decide +kernel
theorem dJx4a65c_add_72be8_1 : decode cJx4a65c_add_72be8 1 = .ok (.aload_n 2, 1) := by decide +kernel
theorem dJx4a65c_add_72be8_2 : decode cJx4a65c_add_72be8 2 = .ok (.arraylength, 1) := by decide +kernel
theorem dJx4a65c_add_72be8_3 : decode cJx4a65c_add_72be8 3 = .ok (.if_icmp .ne 8, 3) := by decide +kernel
theorem dJx4a65c_add_72be8_6 : decode cJx4a65c_add_72be8 6 = .ok (.aload_n 0, 1) := by decide +kernel
theorem dJx4a65c_add_72be8_7 : decode cJx4a65c_add_72be8 7 = .ok (.invokevirtual 129, 3) := by decide +kernel
theorem dJx4a65c_add_72be8_10 : decode cJx4a65c_add_72be8 10 = .ok (.astore_n 2, 1) := by decide +kernel
theorem dJx4a65c_add_72be8_11 : decode cJx4a65c_add_72be8 11 = .ok (.aload_n 2, 1) := by decide +kernel
theorem dJx4a65c_add_72be8_12 : decode cJx4a65c_add_72be8 12 = .ok (.iload_n 3, 1) := by decide +kernel
theorem dJx4a65c_add_72be8_13 : decode cJx4a65c_add_72be8 13 = .ok (.aload_n 1, 1) := by decide +kernel
theorem dJx4a65c_add_72be8_14 : decode cJx4a65c_add_72be8 14 = .ok (.aastore, 1) := by decide +kernel
theorem dJx4a65c_add_72be8_15 : decode cJx4a65c_add_72be8 15 = .ok (.aload_n 0, 1) := by decide +kernel
theorem dJx4a65c_add_72be8_16 : decode cJx4a65c_add_72be8 16 = .ok (.iload_n 3, 1) := by decide +kernel
theorem dJx4a65c_add_72be8_17 : decode cJx4a65c_add_72be8 17 = .ok (.iconst 1, 1) := by decide +kernel
theorem dJx4a65c_add_72be8_18 : decode cJx4a65c_add_72be8 18 = .ok (.iadd, 1) := by decide +kernel
theorem dJx4a65c_add_72be8_19 : decode cJx4a65c_add_72be8 19 = .ok (.putfield 48, 3) := by decide +kernel
theorem dJx4a65c_add_72be8_22 : decode cJx4a65c_add_72be8 22 = .ok (.return_, 1) := by decide +kernel
theorem dJx4a65c_add_9ea2d_0 : decode cJx4a65c_add_9ea2d 0 = .ok (.aload_n 0, 1) := by decide +kernel
theorem dJx4a65c_add_9ea2d_1 : decode cJx4a65c_add_9ea2d 1 = .ok (.dup, 1) := by decide +kernel
theorem dJx4a65c_add_9ea2d_2 : decode cJx4a65c_add_9ea2d 2 = .ok (.getfield 63, 3) := by decide +kernel
theorem dJx4a65c_add_9ea2d_5 : decode cJx4a65c_add_9ea2d 5 = .ok (.iconst 1, 1) := by decide +kernel
theorem dJx4a65c_add_9ea2d_6 : decode cJx4a65c_add_9ea2d 6 = .ok (.iadd, 1) := by decide +kernel
theorem dJx4a65c_add_9ea2d_7 : decode cJx4a65c_add_9ea2d 7 = .ok (.putfield 63, 3) := by decide +kernel
theorem dJx4a65c_add_9ea2d_10 : decode cJx4a65c_add_9ea2d 10 = .ok (.aload_n 0, 1) := by decide +kernel
theorem dJx4a65c_add_9ea2d_11 : decode cJx4a65c_add_9ea2d 11 = .ok (.aload_n 1, 1) := by decide +kernel
theorem dJx4a65c_add_9ea2d_12 : decode cJx4a65c_add_9ea2d 12 = .ok (.aload_n 0, 1) := by decide +kernel
theorem dJx4a65c_add_9ea2d_13 : decode cJx4a65c_add_9ea2d 13 = .ok (.getfield 9, 3) := by decide +kernel
theorem dJx4a65c_add_9ea2d_16 : decode cJx4a65c_add_9ea2d 16 = .ok (.aload_n 0, 1) := by decide +kernel
theorem dJx4a65c_add_9ea2d_17 : decode cJx4a65c_add_9ea2d 17 = .ok (.getfield 48, 3) := by decide +kernel
theorem dJx4a65c_add_9ea2d_20 : decode cJx4a65c_add_9ea2d 20 = .ok (.invokevirtual 131, 3) := by decide +kernel
theorem dJx4a65c_add_9ea2d_23 : decode cJx4a65c_add_9ea2d 23 = .ok (.iconst 1, 1) := by decide +kernel
theorem dJx4a65c_add_9ea2d_24 : decode cJx4a65c_add_9ea2d 24 = .ok (.ireturn, 1) := by decide +kernel
theorem dJ7_copyOf_1904c_0 : decode cJ7_copyOf_1904c 0 = .ok (.aload_n 0, 1) := by decide +kernel
theorem dJ7_copyOf_1904c_1 : decode cJ7_copyOf_1904c 1 = .ok (.iload_n 1, 1) := by decide +kernel
theorem dJ7_copyOf_1904c_2 : decode cJ7_copyOf_1904c 2 = .ok (.aload_n 0, 1) := by decide +kernel
theorem dJ7_copyOf_1904c_3 : decode cJ7_copyOf_1904c 3 = .ok (.invokevirtual 86, 3) := by decide +kernel
theorem dJ7_copyOf_1904c_6 : decode cJ7_copyOf_1904c 6 = .ok (.invokestatic 300, 3) := by decide +kernel
theorem dJ7_copyOf_1904c_9 : decode cJ7_copyOf_1904c 9 = .ok (.areturn, 1) := by decide +kernel
theorem dJ7_copyOf_6403c_0 : decode cJ7_copyOf_6403c 0 = .ok (.aload_n 2, 1) := by decide +kernel
theorem dJ7_copyOf_6403c_1 : decode cJ7_copyOf_6403c 1 = .ok (.ldc 110, 2) := by decide +kernel
theorem dJ7_copyOf_6403c_3 : decode cJ7_copyOf_6403c 3 = .ok (.if_acmp .ne 10, 3) := by decide +kernel
theorem dJ7_copyOf_6403c_6 : decode cJ7_copyOf_6403c 6 = .ok (.iload_n 1, 1) := by decide +kernel
theorem dJ7_copyOf_6403c_7 : decode cJ7_copyOf_6403c 7 = .ok (.anewarray 2, 3) := by decide +kernel
theorem dJ7_copyOf_6403c_10 : decode cJ7_copyOf_6403c 10 = .ok (.goto 14, 3) := by decide +kernel
theorem dJ7_copyOf_6403c_13 : decode cJ7_copyOf_6403c 13 = .ok (.aload_n 2, 1) := by decide +kernel
theorem dJ7_copyOf_6403c_14 : decode cJ7_copyOf_6403c 14 = .ok (.invokevirtual 90, 3) := by decide +kernel
theorem dJ7_copyOf_6403c_17 : decode cJ7_copyOf_6403c 17 = .ok (.iload_n 1, 1) := by decide +kernel
theorem dJ7_copyOf_6403c_18 : decode cJ7_copyOf_6403c 18 = .ok (.invokestatic 95, 3) := by decide +kernel
theorem dJ7_copyOf_6403c_21 : decode cJ7_copyOf_6403c 21 = .ok (.checkcast 110, 3) := by decide +kernel
theorem dJ7_copyOf_6403c_24 : decode cJ7_copyOf_6403c 24 = .ok (.astore_n 3, 1) := by decide +kernel
theorem dJ7_copyOf_6403c_25 : decode cJ7_copyOf_6403c 25 = .ok (.aload_n 0, 1) := by decide +kernel
theorem dJ7_copyOf_6403c_26 : decode cJ7_copyOf_6403c 26 = .ok (.iconst 0, 1) := by decide +kernel
theorem dJ7_copyOf_6403c_27 : decode cJ7_copyOf_6403c 27 = .ok (.aload_n 3, 1) := by decide +kernel
theorem dJ7_copyOf_6403c_28 : decode cJ7_copyOf_6403c 28 = .ok (.iconst 0, 1) := by decide +kernel
theorem dJ7_copyOf_6403c_29 : decode cJ7_copyOf_6403c 29 = .ok (.aload_n 0, 1) := by decide +kernel
theorem dJ7_copyOf_6403c_30 : decode cJ7_copyOf_6403c 30 = .ok (.arraylength, 1) := by decide +kernel
theorem dJ7_copyOf_6403c_31 : decode cJ7_copyOf_6403c 31 = .ok (.iload_n 1, 1) := by decide +kernel
theorem dJ7_copyOf_6403c_32 : decode cJ7_copyOf_6403c 32 = .ok (.invokestatic 304, 3) := by decide +kernel
theorem dJ7_copyOf_6403c_35 : decode cJ7_copyOf_6403c 35 = .ok (.invokestatic 150, 3) := by decide +kernel
theorem dJ7_copyOf_6403c_38 : decode cJ7_copyOf_6403c 38 = .ok (.aload_n 3, 1) := by decide +kernel
theorem dJ7_copyOf_6403c_39 : decode cJ7_copyOf_6403c 39 = .ok (.areturn, 1) := by decide +kernel
theorem dJ15_checkIndex_7cf53_0 : decode cJ15_checkIndex_7cf53 0 = .ok (.iload_n 0, 1) := by decide +kernel
theorem dJ15_checkIndex_7cf53_1 : decode cJ15_checkIndex_7cf53 1 = .ok (.iload_n 1, 1) := by decide +kernel
theorem dJ15_checkIndex_7cf53_2 : decode cJ15_checkIndex_7cf53 2 = .ok (.aconst_null, 1) := by decide +kernel
theorem dJ15_checkIndex_7cf53_3 : decode cJ15_checkIndex_7cf53 3 = .ok (.invokestatic 105, 3) := by decide +kernel
theorem dJ15_checkIndex_7cf53_6 : decode cJ15_checkIndex_7cf53 6 = .ok (.ireturn, 1) := by decide +kernel
theorem dJ8_newLength_cabcc_0 : decode cJ8_newLength_cabcc 0 = .ok (.iload_n 0, 1) := by decide +kernel
theorem dJ8_newLength_cabcc_1 : decode cJ8_newLength_cabcc 1 = .ok (.iload_n 1, 1) := by decide +kernel
theorem dJ8_newLength_cabcc_2 : decode cJ8_newLength_cabcc 2 = .ok (.iload_n 2, 1) := by decide +kernel
theorem dJ8_newLength_cabcc_3 : decode cJ8_newLength_cabcc 3 = .ok (.invokestatic 194, 3) := by decide +kernel
theorem dJ8_newLength_cabcc_6 : decode cJ8_newLength_cabcc 6 = .ok (.iadd, 1) := by decide +kernel
theorem dJ8_newLength_cabcc_7 : decode cJ8_newLength_cabcc 7 = .ok (.istore_n 3, 1) := by decide +kernel
theorem dJ8_newLength_cabcc_8 : decode cJ8_newLength_cabcc 8 = .ok (.iconst 0, 1) := by decide +kernel
theorem dJ8_newLength_cabcc_9 : decode cJ8_newLength_cabcc 9 = .ok (.iload_n 3, 1) := by decide +kernel
theorem dJ8_newLength_cabcc_10 : decode cJ8_newLength_cabcc 10 = .ok (.if_icmp .ge 11, 3) := by decide +kernel
theorem dJ8_newLength_cabcc_13 : decode cJ8_newLength_cabcc 13 = .ok (.iload_n 3, 1) := by decide +kernel
theorem dJ8_newLength_cabcc_14 : decode cJ8_newLength_cabcc 14 = .ok (.ldc 200, 2) := by decide +kernel
theorem dJ8_newLength_cabcc_16 : decode cJ8_newLength_cabcc 16 = .ok (.if_icmp .gt 5, 3) := by decide +kernel
theorem dJ8_newLength_cabcc_19 : decode cJ8_newLength_cabcc 19 = .ok (.iload_n 3, 1) := by decide +kernel
theorem dJ8_newLength_cabcc_20 : decode cJ8_newLength_cabcc 20 = .ok (.ireturn, 1) := by decide +kernel
theorem dJ8_newLength_cabcc_21 : decode cJ8_newLength_cabcc 21 = .ok (.iload_n 0, 1) := by decide +kernel
theorem dJ8_newLength_cabcc_22 : decode cJ8_newLength_cabcc 22 = .ok (.iload_n 1, 1) := by decide +kernel
theorem dJ8_newLength_cabcc_23 : decode cJ8_newLength_cabcc 23 = .ok (.invokestatic 201, 3) := by decide +kernel
theorem dJ8_newLength_cabcc_26 : decode cJ8_newLength_cabcc 26 = .ok (.ireturn, 1) := by decide +kernel
theorem dJ8_hugeLength_7cf53_0 : decode cJ8_hugeLength_7cf53 0 = .ok (.iload_n 0, 1) := by decide +kernel
theorem dJ8_hugeLength_7cf53_1 : decode cJ8_hugeLength_7cf53 1 = .ok (.iload_n 1, 1) := by decide +kernel
theorem dJ8_hugeLength_7cf53_2 : decode cJ8_hugeLength_7cf53 2 = .ok (.iadd, 1) := by decide +kernel
theorem dJ8_hugeLength_7cf53_3 : decode cJ8_hugeLength_7cf53 3 = .ok (.istore_n 2, 1) := by decide +kernel
theorem dJ8_hugeLength_7cf53_4 : decode cJ8_hugeLength_7cf53 4 = .ok (.iload_n 2, 1) := by decide +kernel
theorem dJ8_hugeLength_7cf53_5 : decode cJ8_hugeLength_7cf53 5 = .ok (.ifCond .ge 44, 3) := by decide +kernel
theorem dJ8_hugeLength_7cf53_8 : decode cJ8_hugeLength_7cf53 8 = .ok (.new 204, 3) := by decide +kernel
theorem dJ8_hugeLength_7cf53_11 : decode cJ8_hugeLength_7cf53 11 = .ok (.dup, 1) := by decide +kernel
theorem dJ8_hugeLength_7cf53_12 : decode cJ8_hugeLength_7cf53 12 = .ok (.new 89, 3) := by decide +kernel
theorem dJ8_hugeLength_7cf53_15 : decode cJ8_hugeLength_7cf53 15 = .ok (.dup, 1) := by decide +kernel
theorem dJ8_hugeLength_7cf53_16 : decode cJ8_hugeLength_7cf53 16 = .ok (.invokespecial 91, 3) := by decide +kernel
theorem dJ8_hugeLength_7cf53_19 : decode cJ8_hugeLength_7cf53 19 = .ok (.ldc 206, 2) := by decide +kernel
theorem dJ8_hugeLength_7cf53_21 : decode cJ8_hugeLength_7cf53 21 = .ok (.invokevirtual 94, 3) := by decide +kernel
theorem dJ8_hugeLength_7cf53_24 : decode cJ8_hugeLength_7cf53 24 = .ok (.iload_n 0, 1) := by decide +kernel
theorem dJ8_hugeLength_7cf53_25 : decode cJ8_hugeLength_7cf53 25 = .ok (.invokevirtual 98, 3) := by decide +kernel
theorem dJ8_hugeLength_7cf53_28 : decode cJ8_hugeLength_7cf53 28 = .ok (.ldc 208, 2) := by decide +kernel
theorem dJ8_hugeLength_7cf53_30 : decode cJ8_hugeLength_7cf53 30 = .ok (.invokevirtual 94, 3) := by decide +kernel
theorem dJ8_hugeLength_7cf53_33 : decode cJ8_hugeLength_7cf53 33 = .ok (.iload_n 1, 1) := by decide +kernel
theorem dJ8_hugeLength_7cf53_34 : decode cJ8_hugeLength_7cf53 34 = .ok (.invokevirtual 98, 3) := by decide +kernel
theorem dJ8_hugeLength_7cf53_37 : decode cJ8_hugeLength_7cf53 37 = .ok (.ldc 210, 2) := by decide +kernel
theorem dJ8_hugeLength_7cf53_39 : decode cJ8_hugeLength_7cf53 39 = .ok (.invokevirtual 94, 3) := by decide +kernel
theorem dJ8_hugeLength_7cf53_42 : decode cJ8_hugeLength_7cf53 42 = .ok (.invokevirtual 101, 3) := by decide +kernel
theorem dJ8_hugeLength_7cf53_45 : decode cJ8_hugeLength_7cf53 45 = .ok (.invokespecial 212, 3) := by decide +kernel
theorem dJ8_hugeLength_7cf53_48 : decode cJ8_hugeLength_7cf53 48 = .ok (.athrow, 1) := by decide +kernel
theorem dJ8_hugeLength_7cf53_49 : decode cJ8_hugeLength_7cf53 49 = .ok (.iload_n 2, 1) := by decide +kernel
theorem dJ8_hugeLength_7cf53_50 : decode cJ8_hugeLength_7cf53 50 = .ok (.ldc 200, 2) := by decide +kernel
theorem dJ8_hugeLength_7cf53_52 : decode cJ8_hugeLength_7cf53 52 = .ok (.if_icmp .gt 6, 3) := by decide +kernel
theorem dJ8_hugeLength_7cf53_55 : decode cJ8_hugeLength_7cf53 55 = .ok (.ldc 200, 2) := by decide +kernel
theorem dJ8_hugeLength_7cf53_57 : decode cJ8_hugeLength_7cf53 57 = .ok (.ireturn, 1) := by decide +kernel
theorem dJ8_hugeLength_7cf53_58 : decode cJ8_hugeLength_7cf53 58 = .ok (.iload_n 2, 1) := by decide +kernel
theorem dJ8_hugeLength_7cf53_59 : decode cJ8_hugeLength_7cf53 59 = .ok (.ireturn, 1) := by decide +kernel
theorem dJ3_checkIndex_8e157_0 : decode cJ3_checkIndex_8e157 0 = .ok (.iload_n 0, 1) := by decide +kernel
theorem dJ3_checkIndex_8e157_1 : decode cJ3_checkIndex_8e157 1 = .ok (.ifCond .lt 8, 3) := by decide +kernel
theorem dJ3_checkIndex_8e157_4 : decode cJ3_checkIndex_8e157 4 = .ok (.iload_n 0, 1) := by decide +kernel
theorem dJ3_checkIndex_8e157_5 : decode cJ3_checkIndex_8e157 5 = .ok (.iload_n 1, 1) := by decide +kernel
theorem dJ3_checkIndex_8e157_6 : decode cJ3_checkIndex_8e157 6 = .ok (.if_icmp .lt 10, 3) := by decide +kernel
theorem dJ3_checkIndex_8e157_9 : decode cJ3_checkIndex_8e157 9 = .ok (.aload_n 2, 1) := by decide +kernel
theorem dJ3_checkIndex_8e157_10 : decode cJ3_checkIndex_8e157 10 = .ok (.iload_n 0, 1) := by decide +kernel
theorem dJ3_checkIndex_8e157_11 : decode cJ3_checkIndex_8e157 11 = .ok (.iload_n 1, 1) := by decide +kernel
theorem dJ3_checkIndex_8e157_12 : decode cJ3_checkIndex_8e157 12 = .ok (.invokestatic 95, 3) := by decide +kernel
theorem dJ3_checkIndex_8e157_15 : decode cJ3_checkIndex_8e157 15 = .ok (.athrow, 1) := by decide +kernel
theorem dJ3_checkIndex_8e157_16 : decode cJ3_checkIndex_8e157 16 = .ok (.iload_n 0, 1) := by decide +kernel
theorem dJ3_checkIndex_8e157_17 : decode cJ3_checkIndex_8e157 17 = .ok (.ireturn, 1) := by decide +kernel
theorem dL_cell_0 : decode cL_cell 0 = .ok (.iload_n 1, 1) := by decide +kernel
theorem dL_cell_1 : decode cL_cell 1 = .ok (.aload_n 0, 1) := by decide +kernel
theorem dL_cell_2 : decode cL_cell 2 = .ok (.arraylength, 1) := by decide +kernel
theorem dL_cell_3 : decode cL_cell 3 = .ok (.if_icmp .ge 9, 3) := by decide +kernel
theorem dL_cell_6 : decode cL_cell 6 = .ok (.aload_n 0, 1) := by decide +kernel
theorem dL_cell_7 : decode cL_cell 7 = .ok (.iload_n 1, 1) := by decide +kernel
theorem dL_cell_8 : decode cL_cell 8 = .ok (.iaload, 1) := by decide +kernel
theorem dL_cell_9 : decode cL_cell 9 = .ok (.goto 12, 3) := by decide +kernel
theorem dL_cell_12 : decode cL_cell 12 = .ok (.ldc 7, 2) := by decide +kernel
theorem dL_cell_14 : decode cL_cell 14 = .ok (.iload_n 1, 1) := by decide +kernel
theorem dL_cell_15 : decode cL_cell 15 = .ok (.iconst 1, 1) := by decide +kernel
theorem dL_cell_16 : decode cL_cell 16 = .ok (.iadd, 1) := by decide +kernel
theorem dL_cell_17 : decode cL_cell 17 = .ok (.imul, 1) := by decide +kernel
theorem dL_cell_18 : decode cL_cell 18 = .ok (.ldc 8, 2) := by decide +kernel
theorem dL_cell_20 : decode cL_cell 20 = .ok (.iadd, 1) := by decide +kernel
theorem dL_cell_21 : decode cL_cell 21 = .ok (.ireturn, 1) := by decide +kernel
theorem dL_low_0 : decode cL_low 0 = .ok (.iload_n 0, 1) := by decide +kernel
theorem dL_low_1 : decode cL_low 1 = .ok (.ldc 9, 2) := by decide +kernel
theorem dL_low_3 : decode cL_low 3 = .ok (.iand, 1) := by decide +kernel
theorem dL_low_4 : decode cL_low 4 = .ok (.iload_n 1, 1) := by decide +kernel
theorem dL_low_5 : decode cL_low 5 = .ok (.irem, 1) := by decide +kernel
theorem dL_low_6 : decode cL_low 6 = .ok (.ireturn, 1) := by decide +kernel
theorem dL_down_0 : decode cL_down 0 = .ok (.lload_n 0, 1) := by decide +kernel
theorem dL_down_1 : decode cL_down 1 = .ok (.lload_n 2, 1) := by decide +kernel
theorem dL_down_2 : decode cL_down 2 = .ok (.ldiv, 1) := by decide +kernel
theorem dL_down_3 : decode cL_down 3 = .ok (.lstore 4, 2) := by decide +kernel
theorem dL_down_5 : decode cL_down 5 = .ok (.lload_n 0, 1) := by decide +kernel
theorem dL_down_6 : decode cL_down 6 = .ok (.lload_n 2, 1) := by decide +kernel
theorem dL_down_7 : decode cL_down 7 = .ok (.lrem, 1) := by decide +kernel
theorem dL_down_8 : decode cL_down 8 = .ok (.lconst 0, 1) := by decide +kernel
theorem dL_down_9 : decode cL_down 9 = .ok (.lcmp, 1) := by decide +kernel
theorem dL_down_10 : decode cL_down 10 = .ok (.ifCond .ge 10, 3) := by decide +kernel
theorem dL_down_13 : decode cL_down 13 = .ok (.lload 4, 2) := by decide +kernel
theorem dL_down_15 : decode cL_down 15 = .ok (.lconst 1, 1) := by decide +kernel
theorem dL_down_16 : decode cL_down 16 = .ok (.lsub, 1) := by decide +kernel
theorem dL_down_17 : decode cL_down 17 = .ok (.goto 5, 3) := by decide +kernel
theorem dL_down_20 : decode cL_down 20 = .ok (.lload 4, 2) := by decide +kernel
theorem dL_down_22 : decode cL_down 22 = .ok (.lreturn, 1) := by decide +kernel
theorem dL_cross_0 : decode cL_cross 0 = .ok (.iconst 3, 1) := by decide +kernel
theorem dL_cross_1 : decode cL_cross 1 = .ok (.aload_n 1, 1) := by decide +kernel
theorem dL_cross_2 : decode cL_cross 2 = .ok (.bipush 9, 2) := by decide +kernel
theorem dL_cross_4 : decode cL_cross 4 = .ok (.iload_n 2, 1) := by decide +kernel
theorem dL_cross_5 : decode cL_cross 5 = .ok (.imul, 1) := by decide +kernel
theorem dL_cross_6 : decode cL_cross 6 = .ok (.iaload, 1) := by decide +kernel
theorem dL_cross_7 : decode cL_cross 7 = .ok (.imul, 1) := by decide +kernel
theorem dL_cross_8 : decode cL_cross 8 = .ok (.istore 6, 2) := by decide +kernel
theorem dL_cross_10 : decode cL_cross 10 = .ok (.iconst 3, 1) := by decide +kernel
theorem dL_cross_11 : decode cL_cross 11 = .ok (.aload_n 1, 1) := by decide +kernel
theorem dL_cross_12 : decode cL_cross 12 = .ok (.bipush 9, 2) := by decide +kernel
theorem dL_cross_14 : decode cL_cross 14 = .ok (.iload_n 3, 1) := by decide +kernel
theorem dL_cross_15 : decode cL_cross 15 = .ok (.imul, 1) := by decide +kernel
theorem dL_cross_16 : decode cL_cross 16 = .ok (.iaload, 1) := by decide +kernel
theorem dL_cross_17 : decode cL_cross 17 = .ok (.imul, 1) := by decide +kernel
theorem dL_cross_18 : decode cL_cross 18 = .ok (.istore 7, 2) := by decide +kernel
theorem dL_cross_20 : decode cL_cross 20 = .ok (.aload_n 1, 1) := by decide +kernel
theorem dL_cross_21 : decode cL_cross 21 = .ok (.bipush 9, 2) := by decide +kernel
theorem dL_cross_23 : decode cL_cross 23 = .ok (.iload_n 2, 1) := by decide +kernel
theorem dL_cross_24 : decode cL_cross 24 = .ok (.imul, 1) := by decide +kernel
theorem dL_cross_25 : decode cL_cross 25 = .ok (.iload 4, 2) := by decide +kernel
theorem dL_cross_27 : decode cL_cross 27 = .ok (.iadd, 1) := by decide +kernel
theorem dL_cross_28 : decode cL_cross 28 = .ok (.iaload, 1) := by decide +kernel
theorem dL_cross_29 : decode cL_cross 29 = .ok (.i2l, 1) := by decide +kernel
theorem dL_cross_30 : decode cL_cross 30 = .ok (.lstore 8, 2) := by decide +kernel
theorem dL_cross_32 : decode cL_cross 32 = .ok (.aload_n 1, 1) := by decide +kernel
theorem dL_cross_33 : decode cL_cross 33 = .ok (.bipush 9, 2) := by decide +kernel
theorem dL_cross_35 : decode cL_cross 35 = .ok (.iload_n 2, 1) := by decide +kernel
theorem dL_cross_36 : decode cL_cross 36 = .ok (.imul, 1) := by decide +kernel
theorem dL_cross_37 : decode cL_cross 37 = .ok (.iload 4, 2) := by decide +kernel
theorem dL_cross_39 : decode cL_cross 39 = .ok (.iadd, 1) := by decide +kernel
theorem dL_cross_40 : decode cL_cross 40 = .ok (.iconst 1, 1) := by decide +kernel
theorem dL_cross_41 : decode cL_cross 41 = .ok (.iadd, 1) := by decide +kernel
theorem dL_cross_42 : decode cL_cross 42 = .ok (.iaload, 1) := by decide +kernel
theorem dL_cross_43 : decode cL_cross 43 = .ok (.i2l, 1) := by decide +kernel
theorem dL_cross_44 : decode cL_cross 44 = .ok (.lstore 10, 2) := by decide +kernel
theorem dL_cross_46 : decode cL_cross 46 = .ok (.aload_n 1, 1) := by decide +kernel
theorem dL_cross_47 : decode cL_cross 47 = .ok (.bipush 9, 2) := by decide +kernel
theorem dL_cross_49 : decode cL_cross 49 = .ok (.iload_n 3, 1) := by decide +kernel
theorem dL_cross_50 : decode cL_cross 50 = .ok (.imul, 1) := by decide +kernel
theorem dL_cross_51 : decode cL_cross 51 = .ok (.iload 4, 2) := by decide +kernel
theorem dL_cross_53 : decode cL_cross 53 = .ok (.iadd, 1) := by decide +kernel
theorem dL_cross_54 : decode cL_cross 54 = .ok (.iaload, 1) := by decide +kernel
theorem dL_cross_55 : decode cL_cross 55 = .ok (.i2l, 1) := by decide +kernel
theorem dL_cross_56 : decode cL_cross 56 = .ok (.lstore 12, 2) := by decide +kernel
theorem dL_cross_58 : decode cL_cross 58 = .ok (.aload_n 1, 1) := by decide +kernel
theorem dL_cross_59 : decode cL_cross 59 = .ok (.bipush 9, 2) := by decide +kernel
theorem dL_cross_61 : decode cL_cross 61 = .ok (.iload_n 3, 1) := by decide +kernel
theorem dL_cross_62 : decode cL_cross 62 = .ok (.imul, 1) := by decide +kernel
theorem dL_cross_63 : decode cL_cross 63 = .ok (.iload 4, 2) := by decide +kernel
theorem dL_cross_65 : decode cL_cross 65 = .ok (.iadd, 1) := by decide +kernel
theorem dL_cross_66 : decode cL_cross 66 = .ok (.iconst 1, 1) := by decide +kernel
theorem dL_cross_67 : decode cL_cross 67 = .ok (.iadd, 1) := by decide +kernel
theorem dL_cross_68 : decode cL_cross 68 = .ok (.iaload, 1) := by decide +kernel
theorem dL_cross_69 : decode cL_cross 69 = .ok (.i2l, 1) := by decide +kernel
theorem dL_cross_70 : decode cL_cross 70 = .ok (.lstore 14, 2) := by decide +kernel
theorem dL_cross_72 : decode cL_cross 72 = .ok (.lload 8, 2) := by decide +kernel
theorem dL_cross_74 : decode cL_cross 74 = .ok (.lload 14, 2) := by decide +kernel
theorem dL_cross_76 : decode cL_cross 76 = .ok (.lmul, 1) := by decide +kernel
theorem dL_cross_77 : decode cL_cross 77 = .ok (.lload 10, 2) := by decide +kernel
theorem dL_cross_79 : decode cL_cross 79 = .ok (.lload 12, 2) := by decide +kernel
theorem dL_cross_81 : decode cL_cross 81 = .ok (.lmul, 1) := by decide +kernel
theorem dL_cross_82 : decode cL_cross 82 = .ok (.lsub, 1) := by decide +kernel
theorem dL_cross_83 : decode cL_cross 83 = .ok (.lstore 16, 2) := by decide +kernel
theorem dL_cross_85 : decode cL_cross 85 = .ok (.lload 16, 2) := by decide +kernel
theorem dL_cross_87 : decode cL_cross 87 = .ok (.lconst 0, 1) := by decide +kernel
theorem dL_cross_88 : decode cL_cross 88 = .ok (.lcmp, 1) := by decide +kernel
theorem dL_cross_89 : decode cL_cross 89 = .ok (.ifCond .ne 5, 3) := by decide +kernel
theorem dL_cross_92 : decode cL_cross 92 = .ok (.iconst 0, 1) := by decide +kernel
theorem dL_cross_93 : decode cL_cross 93 = .ok (.ireturn, 1) := by decide +kernel
theorem dL_cross_94 : decode cL_cross 94 = .ok (.aload_n 0, 1) := by decide +kernel
theorem dL_cross_95 : decode cL_cross 95 = .ok (.iload 7, 2) := by decide +kernel
theorem dL_cross_97 : decode cL_cross 97 = .ok (.iaload, 1) := by decide +kernel
theorem dL_cross_98 : decode cL_cross 98 = .ok (.aload_n 0, 1) := by decide +kernel
theorem dL_cross_99 : decode cL_cross 99 = .ok (.iload 6, 2) := by decide +kernel
theorem dL_cross_101 : decode cL_cross 101 = .ok (.iaload, 1) := by decide +kernel
theorem dL_cross_102 : decode cL_cross 102 = .ok (.isub, 1) := by decide +kernel
theorem dL_cross_103 : decode cL_cross 103 = .ok (.i2l, 1) := by decide +kernel
theorem dL_cross_104 : decode cL_cross 104 = .ok (.lstore 18, 2) := by decide +kernel
theorem dL_cross_106 : decode cL_cross 106 = .ok (.aload_n 0, 1) := by decide +kernel
theorem dL_cross_107 : decode cL_cross 107 = .ok (.iload 7, 2) := by decide +kernel
theorem dL_cross_109 : decode cL_cross 109 = .ok (.iconst 1, 1) := by decide +kernel
theorem dL_cross_110 : decode cL_cross 110 = .ok (.iadd, 1) := by decide +kernel
theorem dL_cross_111 : decode cL_cross 111 = .ok (.iaload, 1) := by decide +kernel
theorem dL_cross_112 : decode cL_cross 112 = .ok (.aload_n 0, 1) := by decide +kernel
theorem dL_cross_113 : decode cL_cross 113 = .ok (.iload 6, 2) := by decide +kernel
theorem dL_cross_115 : decode cL_cross 115 = .ok (.iconst 1, 1) := by decide +kernel
theorem dL_cross_116 : decode cL_cross 116 = .ok (.iadd, 1) := by decide +kernel
theorem dL_cross_117 : decode cL_cross 117 = .ok (.iaload, 1) := by decide +kernel
theorem dL_cross_118 : decode cL_cross 118 = .ok (.isub, 1) := by decide +kernel
theorem dL_cross_119 : decode cL_cross 119 = .ok (.i2l, 1) := by decide +kernel
theorem dL_cross_120 : decode cL_cross 120 = .ok (.lstore 20, 2) := by decide +kernel
theorem dL_cross_122 : decode cL_cross 122 = .ok (.lload 18, 2) := by decide +kernel
theorem dL_cross_124 : decode cL_cross 124 = .ok (.lload 14, 2) := by decide +kernel
theorem dL_cross_126 : decode cL_cross 126 = .ok (.lmul, 1) := by decide +kernel
theorem dL_cross_127 : decode cL_cross 127 = .ok (.lload 20, 2) := by decide +kernel
theorem dL_cross_129 : decode cL_cross 129 = .ok (.lload 12, 2) := by decide +kernel
theorem dL_cross_131 : decode cL_cross 131 = .ok (.lmul, 1) := by decide +kernel
theorem dL_cross_132 : decode cL_cross 132 = .ok (.lsub, 1) := by decide +kernel
theorem dL_cross_133 : decode cL_cross 133 = .ok (.lstore 22, 2) := by decide +kernel
theorem dL_cross_135 : decode cL_cross 135 = .ok (.lload 18, 2) := by decide +kernel
theorem dL_cross_137 : decode cL_cross 137 = .ok (.lload 10, 2) := by decide +kernel
theorem dL_cross_139 : decode cL_cross 139 = .ok (.lmul, 1) := by decide +kernel
theorem dL_cross_140 : decode cL_cross 140 = .ok (.lload 20, 2) := by decide +kernel
theorem dL_cross_142 : decode cL_cross 142 = .ok (.lload 8, 2) := by decide +kernel
theorem dL_cross_144 : decode cL_cross 144 = .ok (.lmul, 1) := by decide +kernel
theorem dL_cross_145 : decode cL_cross 145 = .ok (.lsub, 1) := by decide +kernel
theorem dL_cross_146 : decode cL_cross 146 = .ok (.lstore 24, 2) := by decide +kernel
theorem dL_cross_148 : decode cL_cross 148 = .ok (.lload 16, 2) := by decide +kernel
theorem dL_cross_150 : decode cL_cross 150 = .ok (.lconst 0, 1) := by decide +kernel
theorem dL_cross_151 : decode cL_cross 151 = .ok (.lcmp, 1) := by decide +kernel
theorem dL_cross_152 : decode cL_cross 152 = .ok (.ifCond .ge 18, 3) := by decide +kernel
theorem dL_cross_155 : decode cL_cross 155 = .ok (.lload 16, 2) := by decide +kernel
theorem dL_cross_157 : decode cL_cross 157 = .ok (.lneg, 1) := by decide +kernel
theorem dL_cross_158 : decode cL_cross 158 = .ok (.lstore 16, 2) := by decide +kernel
theorem dL_cross_160 : decode cL_cross 160 = .ok (.lload 22, 2) := by decide +kernel
theorem dL_cross_162 : decode cL_cross 162 = .ok (.lneg, 1) := by decide +kernel
theorem dL_cross_163 : decode cL_cross 163 = .ok (.lstore 22, 2) := by decide +kernel
theorem dL_cross_165 : decode cL_cross 165 = .ok (.lload 24, 2) := by decide +kernel
theorem dL_cross_167 : decode cL_cross 167 = .ok (.lneg, 1) := by decide +kernel
theorem dL_cross_168 : decode cL_cross 168 = .ok (.lstore 24, 2) := by decide +kernel
theorem dL_cross_170 : decode cL_cross 170 = .ok (.lload 22, 2) := by decide +kernel
theorem dL_cross_172 : decode cL_cross 172 = .ok (.lconst 0, 1) := by decide +kernel
theorem dL_cross_173 : decode cL_cross 173 = .ok (.lcmp, 1) := by decide +kernel
theorem dL_cross_174 : decode cL_cross 174 = .ok (.ifCond .le 10, 3) := by decide +kernel
theorem dL_cross_177 : decode cL_cross 177 = .ok (.lload 24, 2) := by decide +kernel
theorem dL_cross_179 : decode cL_cross 179 = .ok (.lconst 0, 1) := by decide +kernel
theorem dL_cross_180 : decode cL_cross 180 = .ok (.lcmp, 1) := by decide +kernel
theorem dL_cross_181 : decode cL_cross 181 = .ok (.ifCond .gt 5, 3) := by decide +kernel
theorem dL_cross_184 : decode cL_cross 184 = .ok (.iconst 0, 1) := by decide +kernel
theorem dL_cross_185 : decode cL_cross 185 = .ok (.ireturn, 1) := by decide +kernel
theorem dL_cross_186 : decode cL_cross 186 = .ok (.aload 5, 2) := by decide +kernel
theorem dL_cross_188 : decode cL_cross 188 = .ok (.iconst 0, 1) := by decide +kernel
theorem dL_cross_189 : decode cL_cross 189 = .ok (.ldc2_w 10, 3) := by decide +kernel
theorem dL_cross_192 : decode cL_cross 192 = .ok (.aload_n 0, 1) := by decide +kernel
theorem dL_cross_193 : decode cL_cross 193 = .ok (.iload 6, 2) := by decide +kernel
theorem dL_cross_195 : decode cL_cross 195 = .ok (.iaload, 1) := by decide +kernel
theorem dL_cross_196 : decode cL_cross 196 = .ok (.i2l, 1) := by decide +kernel
theorem dL_cross_197 : decode cL_cross 197 = .ok (.lload 16, 2) := by decide +kernel
theorem dL_cross_199 : decode cL_cross 199 = .ok (.lmul, 1) := by decide +kernel
theorem dL_cross_200 : decode cL_cross 200 = .ok (.lload 22, 2) := by decide +kernel
theorem dL_cross_202 : decode cL_cross 202 = .ok (.lload 8, 2) := by decide +kernel
theorem dL_cross_204 : decode cL_cross 204 = .ok (.lmul, 1) := by decide +kernel
theorem dL_cross_205 : decode cL_cross 205 = .ok (.ladd, 1) := by decide +kernel
theorem dL_cross_206 : decode cL_cross 206 = .ok (.lmul, 1) := by decide +kernel
theorem dL_cross_207 : decode cL_cross 207 = .ok (.lload 16, 2) := by decide +kernel
theorem dL_cross_209 : decode cL_cross 209 = .ok (.invokestatic 12, 3) := by decide +kernel
theorem dL_cross_212 : decode cL_cross 212 = .ok (.lastore, 1) := by decide +kernel
theorem dL_cross_213 : decode cL_cross 213 = .ok (.aload 5, 2) := by decide +kernel
theorem dL_cross_215 : decode cL_cross 215 = .ok (.iconst 1, 1) := by decide +kernel
theorem dL_cross_216 : decode cL_cross 216 = .ok (.ldc2_w 10, 3) := by decide +kernel
theorem dL_cross_219 : decode cL_cross 219 = .ok (.aload_n 0, 1) := by decide +kernel
theorem dL_cross_220 : decode cL_cross 220 = .ok (.iload 6, 2) := by decide +kernel
theorem dL_cross_222 : decode cL_cross 222 = .ok (.iconst 1, 1) := by decide +kernel
theorem dL_cross_223 : decode cL_cross 223 = .ok (.iadd, 1) := by decide +kernel
theorem dL_cross_224 : decode cL_cross 224 = .ok (.iaload, 1) := by decide +kernel
theorem dL_cross_225 : decode cL_cross 225 = .ok (.i2l, 1) := by decide +kernel
theorem dL_cross_226 : decode cL_cross 226 = .ok (.lload 16, 2) := by decide +kernel
theorem dL_cross_228 : decode cL_cross 228 = .ok (.lmul, 1) := by decide +kernel
theorem dL_cross_229 : decode cL_cross 229 = .ok (.lload 22, 2) := by decide +kernel
theorem dL_cross_231 : decode cL_cross 231 = .ok (.lload 10, 2) := by decide +kernel
theorem dL_cross_233 : decode cL_cross 233 = .ok (.lmul, 1) := by decide +kernel
theorem dL_cross_234 : decode cL_cross 234 = .ok (.ladd, 1) := by decide +kernel
theorem dL_cross_235 : decode cL_cross 235 = .ok (.lmul, 1) := by decide +kernel
theorem dL_cross_236 : decode cL_cross 236 = .ok (.lload 16, 2) := by decide +kernel
theorem dL_cross_238 : decode cL_cross 238 = .ok (.invokestatic 12, 3) := by decide +kernel
theorem dL_cross_241 : decode cL_cross 241 = .ok (.lastore, 1) := by decide +kernel
theorem dL_cross_242 : decode cL_cross 242 = .ok (.iconst 1, 1) := by decide +kernel
theorem dL_cross_243 : decode cL_cross 243 = .ok (.ireturn, 1) := by decide +kernel
theorem dL_joins_0 : decode cL_joins 0 = .ok (.iload_n 2, 1) := by decide +kernel
theorem dL_joins_1 : decode cL_joins 1 = .ok (.iload_n 3, 1) := by decide +kernel
theorem dL_joins_2 : decode cL_joins 2 = .ok (.if_icmp .eq 89, 3) := by decide +kernel
theorem dL_joins_5 : decode cL_joins 5 = .ok (.aload_n 1, 1) := by decide +kernel
theorem dL_joins_6 : decode cL_joins 6 = .ok (.bipush 9, 2) := by decide +kernel
theorem dL_joins_8 : decode cL_joins 8 = .ok (.iload_n 2, 1) := by decide +kernel
theorem dL_joins_9 : decode cL_joins 9 = .ok (.imul, 1) := by decide +kernel
theorem dL_joins_10 : decode cL_joins 10 = .ok (.iaload, 1) := by decide +kernel
theorem dL_joins_11 : decode cL_joins 11 = .ok (.aload_n 1, 1) := by decide +kernel
theorem dL_joins_12 : decode cL_joins 12 = .ok (.bipush 9, 2) := by decide +kernel
theorem dL_joins_14 : decode cL_joins 14 = .ok (.iload_n 3, 1) := by decide +kernel
theorem dL_joins_15 : decode cL_joins 15 = .ok (.imul, 1) := by decide +kernel
theorem dL_joins_16 : decode cL_joins 16 = .ok (.iaload, 1) := by decide +kernel
theorem dL_joins_17 : decode cL_joins 17 = .ok (.if_icmp .eq 74, 3) := by decide +kernel
theorem dL_joins_20 : decode cL_joins 20 = .ok (.aload_n 1, 1) := by decide +kernel
theorem dL_joins_21 : decode cL_joins 21 = .ok (.bipush 9, 2) := by decide +kernel
theorem dL_joins_23 : decode cL_joins 23 = .ok (.iload_n 2, 1) := by decide +kernel
theorem dL_joins_24 : decode cL_joins 24 = .ok (.imul, 1) := by decide +kernel
theorem dL_joins_25 : decode cL_joins 25 = .ok (.iconst 1, 1) := by decide +kernel
theorem dL_joins_26 : decode cL_joins 26 = .ok (.iadd, 1) := by decide +kernel
theorem dL_joins_27 : decode cL_joins 27 = .ok (.iaload, 1) := by decide +kernel
theorem dL_joins_28 : decode cL_joins 28 = .ok (.aload_n 1, 1) := by decide +kernel
theorem dL_joins_29 : decode cL_joins 29 = .ok (.bipush 9, 2) := by decide +kernel
theorem dL_joins_31 : decode cL_joins 31 = .ok (.iload_n 3, 1) := by decide +kernel
theorem dL_joins_32 : decode cL_joins 32 = .ok (.imul, 1) := by decide +kernel
theorem dL_joins_33 : decode cL_joins 33 = .ok (.iconst 1, 1) := by decide +kernel
theorem dL_joins_34 : decode cL_joins 34 = .ok (.iadd, 1) := by decide +kernel
theorem dL_joins_35 : decode cL_joins 35 = .ok (.iaload, 1) := by decide +kernel
theorem dL_joins_36 : decode cL_joins 36 = .ok (.if_icmp .ne 55, 3) := by decide +kernel
theorem dL_joins_39 : decode cL_joins 39 = .ok (.aload_n 1, 1) := by decide +kernel
theorem dL_joins_40 : decode cL_joins 40 = .ok (.bipush 9, 2) := by decide +kernel
theorem dL_joins_42 : decode cL_joins 42 = .ok (.iload_n 2, 1) := by decide +kernel
theorem dL_joins_43 : decode cL_joins 43 = .ok (.imul, 1) := by decide +kernel
theorem dL_joins_44 : decode cL_joins 44 = .ok (.iconst 3, 1) := by decide +kernel
theorem dL_joins_45 : decode cL_joins 45 = .ok (.iadd, 1) := by decide +kernel
theorem dL_joins_46 : decode cL_joins 46 = .ok (.iaload, 1) := by decide +kernel
theorem dL_joins_47 : decode cL_joins 47 = .ok (.bipush 30, 2) := by decide +kernel
theorem dL_joins_49 : decode cL_joins 49 = .ok (.if_icmp .gt 42, 3) := by decide +kernel
theorem dL_joins_52 : decode cL_joins 52 = .ok (.aload_n 1, 1) := by decide +kernel
theorem dL_joins_53 : decode cL_joins 53 = .ok (.bipush 9, 2) := by decide +kernel
theorem dL_joins_55 : decode cL_joins 55 = .ok (.iload_n 3, 1) := by decide +kernel
theorem dL_joins_56 : decode cL_joins 56 = .ok (.imul, 1) := by decide +kernel
theorem dL_joins_57 : decode cL_joins 57 = .ok (.iconst 3, 1) := by decide +kernel
theorem dL_joins_58 : decode cL_joins 58 = .ok (.iadd, 1) := by decide +kernel
theorem dL_joins_59 : decode cL_joins 59 = .ok (.iaload, 1) := by decide +kernel
theorem dL_joins_60 : decode cL_joins 60 = .ok (.bipush 30, 2) := by decide +kernel
theorem dL_joins_62 : decode cL_joins 62 = .ok (.if_icmp .gt 29, 3) := by decide +kernel
theorem dL_joins_65 : decode cL_joins 65 = .ok (.aload_n 1, 1) := by decide +kernel
theorem dL_joins_66 : decode cL_joins 66 = .ok (.bipush 9, 2) := by decide +kernel
theorem dL_joins_68 : decode cL_joins 68 = .ok (.iload_n 2, 1) := by decide +kernel
theorem dL_joins_69 : decode cL_joins 69 = .ok (.imul, 1) := by decide +kernel
theorem dL_joins_70 : decode cL_joins 70 = .ok (.iconst 4, 1) := by decide +kernel
theorem dL_joins_71 : decode cL_joins 71 = .ok (.iadd, 1) := by decide +kernel
theorem dL_joins_72 : decode cL_joins 72 = .ok (.iaload, 1) := by decide +kernel
theorem dL_joins_73 : decode cL_joins 73 = .ok (.bipush 50, 2) := by decide +kernel
theorem dL_joins_75 : decode cL_joins 75 = .ok (.if_icmp .lt 16, 3) := by decide +kernel
theorem dL_joins_78 : decode cL_joins 78 = .ok (.aload_n 1, 1) := by decide +kernel
theorem dL_joins_79 : decode cL_joins 79 = .ok (.bipush 9, 2) := by decide +kernel
theorem dL_joins_81 : decode cL_joins 81 = .ok (.iload_n 3, 1) := by decide +kernel
theorem dL_joins_82 : decode cL_joins 82 = .ok (.imul, 1) := by decide +kernel
theorem dL_joins_83 : decode cL_joins 83 = .ok (.iconst 4, 1) := by decide +kernel
theorem dL_joins_84 : decode cL_joins 84 = .ok (.iadd, 1) := by decide +kernel
theorem dL_joins_85 : decode cL_joins 85 = .ok (.iaload, 1) := by decide +kernel
theorem dL_joins_86 : decode cL_joins 86 = .ok (.bipush 50, 2) := by decide +kernel
theorem dL_joins_88 : decode cL_joins 88 = .ok (.if_icmp .ge 5, 3) := by decide +kernel
theorem dL_joins_91 : decode cL_joins 91 = .ok (.iconst 0, 1) := by decide +kernel
theorem dL_joins_92 : decode cL_joins 92 = .ok (.ireturn, 1) := by decide +kernel
theorem dL_joins_93 : decode cL_joins 93 = .ok (.aload_n 1, 1) := by decide +kernel
theorem dL_joins_94 : decode cL_joins 94 = .ok (.bipush 9, 2) := by decide +kernel
theorem dL_joins_96 : decode cL_joins 96 = .ok (.iload_n 2, 1) := by decide +kernel
theorem dL_joins_97 : decode cL_joins 97 = .ok (.imul, 1) := by decide +kernel
theorem dL_joins_98 : decode cL_joins 98 = .ok (.iconst 2, 1) := by decide +kernel
theorem dL_joins_99 : decode cL_joins 99 = .ok (.iadd, 1) := by decide +kernel
theorem dL_joins_100 : decode cL_joins 100 = .ok (.iaload, 1) := by decide +kernel
theorem dL_joins_101 : decode cL_joins 101 = .ok (.aload_n 0, 1) := by decide +kernel
theorem dL_joins_102 : decode cL_joins 102 = .ok (.iconst 3, 1) := by decide +kernel
theorem dL_joins_103 : decode cL_joins 103 = .ok (.aload_n 1, 1) := by decide +kernel
theorem dL_joins_104 : decode cL_joins 104 = .ok (.bipush 9, 2) := by decide +kernel
theorem dL_joins_106 : decode cL_joins 106 = .ok (.iload_n 2, 1) := by decide +kernel
theorem dL_joins_107 : decode cL_joins 107 = .ok (.imul, 1) := by decide +kernel
theorem dL_joins_108 : decode cL_joins 108 = .ok (.iaload, 1) := by decide +kernel
theorem dL_joins_109 : decode cL_joins 109 = .ok (.imul, 1) := by decide +kernel
theorem dL_joins_110 : decode cL_joins 110 = .ok (.iconst 2, 1) := by decide +kernel
theorem dL_joins_111 : decode cL_joins 111 = .ok (.iadd, 1) := by decide +kernel
theorem dL_joins_112 : decode cL_joins 112 = .ok (.iaload, 1) := by decide +kernel
theorem dL_joins_113 : decode cL_joins 113 = .ok (.isub, 1) := by decide +kernel
theorem dL_joins_114 : decode cL_joins 114 = .ok (.aload_n 1, 1) := by decide +kernel
theorem dL_joins_115 : decode cL_joins 115 = .ok (.bipush 9, 2) := by decide +kernel
theorem dL_joins_117 : decode cL_joins 117 = .ok (.iload_n 3, 1) := by decide +kernel
theorem dL_joins_118 : decode cL_joins 118 = .ok (.imul, 1) := by decide +kernel
theorem dL_joins_119 : decode cL_joins 119 = .ok (.iconst 2, 1) := by decide +kernel
theorem dL_joins_120 : decode cL_joins 120 = .ok (.iadd, 1) := by decide +kernel
theorem dL_joins_121 : decode cL_joins 121 = .ok (.iaload, 1) := by decide +kernel
theorem dL_joins_122 : decode cL_joins 122 = .ok (.isub, 1) := by decide +kernel
theorem dL_joins_123 : decode cL_joins 123 = .ok (.aload_n 0, 1) := by decide +kernel
theorem dL_joins_124 : decode cL_joins 124 = .ok (.iconst 3, 1) := by decide +kernel
theorem dL_joins_125 : decode cL_joins 125 = .ok (.aload_n 1, 1) := by decide +kernel
theorem dL_joins_126 : decode cL_joins 126 = .ok (.bipush 9, 2) := by decide +kernel
theorem dL_joins_128 : decode cL_joins 128 = .ok (.iload_n 3, 1) := by decide +kernel
theorem dL_joins_129 : decode cL_joins 129 = .ok (.imul, 1) := by decide +kernel
theorem dL_joins_130 : decode cL_joins 130 = .ok (.iaload, 1) := by decide +kernel
theorem dL_joins_131 : decode cL_joins 131 = .ok (.imul, 1) := by decide +kernel
theorem dL_joins_132 : decode cL_joins 132 = .ok (.iconst 2, 1) := by decide +kernel
theorem dL_joins_133 : decode cL_joins 133 = .ok (.iadd, 1) := by decide +kernel
theorem dL_joins_134 : decode cL_joins 134 = .ok (.iaload, 1) := by decide +kernel
theorem dL_joins_135 : decode cL_joins 135 = .ok (.iadd, 1) := by decide +kernel
theorem dL_joins_136 : decode cL_joins 136 = .ok (.istore 4, 2) := by decide +kernel
theorem dL_joins_138 : decode cL_joins 138 = .ok (.iconst 4, 1) := by decide +kernel
theorem dL_joins_139 : decode cL_joins 139 = .ok (.newarray .long, 2) := by decide +kernel
theorem dL_joins_141 : decode cL_joins 141 = .ok (.astore 5, 2) := by decide +kernel
theorem dL_joins_143 : decode cL_joins 143 = .ok (.iload 4, 2) := by decide +kernel
theorem dL_joins_145 : decode cL_joins 145 = .ok (.bipush 6, 2) := by decide +kernel
theorem dL_joins_147 : decode cL_joins 147 = .ok (.if_icmp .ge 41, 3) := by decide +kernel
theorem dL_joins_150 : decode cL_joins 150 = .ok (.iload 4, 2) := by decide +kernel
theorem dL_joins_152 : decode cL_joins 152 = .ok (.bipush (-6), 2) := by decide +kernel
theorem dL_joins_154 : decode cL_joins 154 = .ok (.if_icmp .le 34, 3) := by decide +kernel
theorem dL_joins_157 : decode cL_joins 157 = .ok (.aload_n 0, 1) := by decide +kernel
theorem dL_joins_158 : decode cL_joins 158 = .ok (.aload_n 1, 1) := by decide +kernel
theorem dL_joins_159 : decode cL_joins 159 = .ok (.iload_n 2, 1) := by decide +kernel
theorem dL_joins_160 : decode cL_joins 160 = .ok (.iload_n 3, 1) := by decide +kernel
theorem dL_joins_161 : decode cL_joins 161 = .ok (.iconst 5, 1) := by decide +kernel
theorem dL_joins_162 : decode cL_joins 162 = .ok (.aload 5, 2) := by decide +kernel
theorem dL_joins_164 : decode cL_joins 164 = .ok (.invokestatic 18, 3) := by decide +kernel
theorem dL_joins_167 : decode cL_joins 167 = .ok (.ifCond .eq 21, 3) := by decide +kernel
theorem dL_joins_170 : decode cL_joins 170 = .ok (.aload_n 0, 1) := by decide +kernel
theorem dL_joins_171 : decode cL_joins 171 = .ok (.aload_n 1, 1) := by decide +kernel
theorem dL_joins_172 : decode cL_joins 172 = .ok (.iload_n 2, 1) := by decide +kernel
theorem dL_joins_173 : decode cL_joins 173 = .ok (.iload_n 3, 1) := by decide +kernel
theorem dL_joins_174 : decode cL_joins 174 = .ok (.bipush 7, 2) := by decide +kernel
theorem dL_joins_176 : decode cL_joins 176 = .ok (.aload 5, 2) := by decide +kernel
theorem dL_joins_178 : decode cL_joins 178 = .ok (.invokestatic 18, 3) := by decide +kernel
theorem dL_joins_181 : decode cL_joins 181 = .ok (.ifCond .eq 7, 3) := by decide +kernel
theorem dL_joins_184 : decode cL_joins 184 = .ok (.iconst 1, 1) := by decide +kernel
theorem dL_joins_185 : decode cL_joins 185 = .ok (.goto 4, 3) := by decide +kernel
theorem dL_joins_188 : decode cL_joins 188 = .ok (.iconst 0, 1) := by decide +kernel
theorem dL_joins_189 : decode cL_joins 189 = .ok (.ireturn, 1) := by decide +kernel
theorem dL_group_0 : decode cL_group 0 = .ok (.bipush 16, 2) := by decide +kernel
theorem dL_group_2 : decode cL_group 2 = .ok (.newarray .int, 2) := by decide +kernel
theorem dL_group_4 : decode cL_group 4 = .ok (.astore 4, 2) := by decide +kernel
theorem dL_group_6 : decode cL_group 6 = .ok (.aload 4, 2) := by decide +kernel
theorem dL_group_8 : decode cL_group 8 = .ok (.iload_n 3, 1) := by decide +kernel
theorem dL_group_9 : decode cL_group 9 = .ok (.iconst 1, 1) := by decide +kernel
theorem dL_group_10 : decode cL_group 10 = .ok (.iastore, 1) := by decide +kernel
theorem dL_group_11 : decode cL_group 11 = .ok (.iconst 1, 1) := by decide +kernel
theorem dL_group_12 : decode cL_group 12 = .ok (.istore 5, 2) := by decide +kernel
theorem dL_group_14 : decode cL_group 14 = .ok (.iconst 0, 1) := by decide +kernel
theorem dL_group_15 : decode cL_group 15 = .ok (.istore 6, 2) := by decide +kernel
theorem dL_group_17 : decode cL_group 17 = .ok (.iload 5, 2) := by decide +kernel
theorem dL_group_19 : decode cL_group 19 = .ok (.ifCond .eq 80, 3) := by decide +kernel
theorem dL_group_22 : decode cL_group 22 = .ok (.iconst 0, 1) := by decide +kernel
theorem dL_group_23 : decode cL_group 23 = .ok (.istore 5, 2) := by decide +kernel
theorem dL_group_25 : decode cL_group 25 = .ok (.iconst 0, 1) := by decide +kernel
theorem dL_group_26 : decode cL_group 26 = .ok (.istore 7, 2) := by decide +kernel
theorem dL_group_28 : decode cL_group 28 = .ok (.iload 7, 2) := by decide +kernel
theorem dL_group_30 : decode cL_group 30 = .ok (.iload_n 2, 1) := by decide +kernel
theorem dL_group_31 : decode cL_group 31 = .ok (.if_icmp .ge 65, 3) := by decide +kernel
theorem dL_group_34 : decode cL_group 34 = .ok (.iconst 0, 1) := by decide +kernel
theorem dL_group_35 : decode cL_group 35 = .ok (.istore 8, 2) := by decide +kernel
theorem dL_group_37 : decode cL_group 37 = .ok (.iload 8, 2) := by decide +kernel
theorem dL_group_39 : decode cL_group 39 = .ok (.iload_n 2, 1) := by decide +kernel
theorem dL_group_40 : decode cL_group 40 = .ok (.if_icmp .ge 50, 3) := by decide +kernel
theorem dL_group_43 : decode cL_group 43 = .ok (.aload 4, 2) := by decide +kernel
theorem dL_group_45 : decode cL_group 45 = .ok (.iload 7, 2) := by decide +kernel
theorem dL_group_47 : decode cL_group 47 = .ok (.iaload, 1) := by decide +kernel
theorem dL_group_48 : decode cL_group 48 = .ok (.iconst 1, 1) := by decide +kernel
theorem dL_group_49 : decode cL_group 49 = .ok (.if_icmp .ne 35, 3) := by decide +kernel
theorem dL_group_52 : decode cL_group 52 = .ok (.aload 4, 2) := by decide +kernel
theorem dL_group_54 : decode cL_group 54 = .ok (.iload 8, 2) := by decide +kernel
theorem dL_group_56 : decode cL_group 56 = .ok (.iaload, 1) := by decide +kernel
theorem dL_group_57 : decode cL_group 57 = .ok (.ifCond .ne 27, 3) := by decide +kernel
theorem dL_group_60 : decode cL_group 60 = .ok (.aload_n 0, 1) := by decide +kernel
theorem dL_group_61 : decode cL_group 61 = .ok (.aload_n 1, 1) := by decide +kernel
theorem dL_group_62 : decode cL_group 62 = .ok (.iload 7, 2) := by decide +kernel
theorem dL_group_64 : decode cL_group 64 = .ok (.iload 8, 2) := by decide +kernel
theorem dL_group_66 : decode cL_group 66 = .ok (.invokestatic 22, 3) := by decide +kernel
theorem dL_group_69 : decode cL_group 69 = .ok (.ifCond .eq 15, 3) := by decide +kernel
theorem dL_group_72 : decode cL_group 72 = .ok (.aload 4, 2) := by decide +kernel
theorem dL_group_74 : decode cL_group 74 = .ok (.iload 8, 2) := by decide +kernel
theorem dL_group_76 : decode cL_group 76 = .ok (.iconst 1, 1) := by decide +kernel
theorem dL_group_77 : decode cL_group 77 = .ok (.iastore, 1) := by decide +kernel
theorem dL_group_78 : decode cL_group 78 = .ok (.iinc 6 1, 3) := by decide +kernel
theorem dL_group_81 : decode cL_group 81 = .ok (.iconst 1, 1) := by decide +kernel
theorem dL_group_82 : decode cL_group 82 = .ok (.istore 5, 2) := by decide +kernel
theorem dL_group_84 : decode cL_group 84 = .ok (.iinc 8 1, 3) := by decide +kernel
theorem dL_group_87 : decode cL_group 87 = .ok (.goto (-50), 3) := by decide +kernel
theorem dL_group_90 : decode cL_group 90 = .ok (.iinc 7 1, 3) := by decide +kernel
theorem dL_group_93 : decode cL_group 93 = .ok (.goto (-65), 3) := by decide +kernel
theorem dL_group_96 : decode cL_group 96 = .ok (.goto (-79), 3) := by decide +kernel
theorem dL_group_99 : decode cL_group 99 = .ok (.iconst 0, 1) := by decide +kernel
theorem dL_group_100 : decode cL_group 100 = .ok (.istore 7, 2) := by decide +kernel
theorem dL_group_102 : decode cL_group 102 = .ok (.aload 4, 2) := by decide +kernel
theorem dL_group_104 : decode cL_group 104 = .ok (.iload 7, 2) := by decide +kernel
theorem dL_group_106 : decode cL_group 106 = .ok (.iaload, 1) := by decide +kernel
theorem dL_group_107 : decode cL_group 107 = .ok (.ifCond .ne 9, 3) := by decide +kernel
theorem dL_group_110 : decode cL_group 110 = .ok (.iinc 7 1, 3) := by decide +kernel
theorem dL_group_113 : decode cL_group 113 = .ok (.goto (-11), 3) := by decide +kernel
theorem dL_group_116 : decode cL_group 116 = .ok (.iload 6, 2) := by decide +kernel
theorem dL_group_118 : decode cL_group 118 = .ok (.ifCond .ne 7, 3) := by decide +kernel
theorem dL_group_121 : decode cL_group 121 = .ok (.iconst (-1), 1) := by decide +kernel
theorem dL_group_122 : decode cL_group 122 = .ok (.goto 5, 3) := by decide +kernel
theorem dL_group_125 : decode cL_group 125 = .ok (.iload 7, 2) := by decide +kernel
theorem dL_group_127 : decode cL_group 127 = .ok (.ireturn, 1) := by decide +kernel
theorem dL_all_0 : decode cL_all 0 = .ok (.iconst 4, 1) := by decide +kernel
theorem dL_all_1 : decode cL_all 1 = .ok (.newarray .long, 2) := by decide +kernel
theorem dL_all_3 : decode cL_all 3 = .ok (.astore 5, 2) := by decide +kernel
theorem dL_all_5 : decode cL_all 5 = .ok (.iconst 0, 1) := by decide +kernel
theorem dL_all_6 : decode cL_all 6 = .ok (.istore 6, 2) := by decide +kernel
theorem dL_all_8 : decode cL_all 8 = .ok (.iload 6, 2) := by decide +kernel
theorem dL_all_10 : decode cL_all 10 = .ok (.bipush 12, 2) := by decide +kernel
theorem dL_all_12 : decode cL_all 12 = .ok (.if_icmp .ge 15, 3) := by decide +kernel
theorem dL_all_15 : decode cL_all 15 = .ok (.aload 4, 2) := by decide +kernel
theorem dL_all_17 : decode cL_all 17 = .ok (.iload 6, 2) := by decide +kernel
theorem dL_all_19 : decode cL_all 19 = .ok (.lconst 0, 1) := by decide +kernel
theorem dL_all_20 : decode cL_all 20 = .ok (.lastore, 1) := by decide +kernel
theorem dL_all_21 : decode cL_all 21 = .ok (.iinc 6 1, 3) := by decide +kernel
theorem dL_all_24 : decode cL_all 24 = .ok (.goto (-16), 3) := by decide +kernel
theorem dL_all_27 : decode cL_all 27 = .ok (.lconst 0, 1) := by decide +kernel
theorem dL_all_28 : decode cL_all 28 = .ok (.lstore 6, 2) := by decide +kernel
theorem dL_all_30 : decode cL_all 30 = .ok (.lconst 0, 1) := by decide +kernel
theorem dL_all_31 : decode cL_all 31 = .ok (.lstore 8, 2) := by decide +kernel
theorem dL_all_33 : decode cL_all 33 = .ok (.lconst 0, 1) := by decide +kernel
theorem dL_all_34 : decode cL_all 34 = .ok (.lstore 10, 2) := by decide +kernel
theorem dL_all_36 : decode cL_all 36 = .ok (.iconst 0, 1) := by decide +kernel
theorem dL_all_37 : decode cL_all 37 = .ok (.istore 12, 2) := by decide +kernel
theorem dL_all_39 : decode cL_all 39 = .ok (.iload 12, 2) := by decide +kernel
theorem dL_all_41 : decode cL_all 41 = .ok (.iload_n 2, 1) := by decide +kernel
theorem dL_all_42 : decode cL_all 42 = .ok (.if_icmp .ge 219, 3) := by decide +kernel
theorem dL_all_45 : decode cL_all 45 = .ok (.aload_n 0, 1) := by decide +kernel
theorem dL_all_46 : decode cL_all 46 = .ok (.aload_n 1, 1) := by decide +kernel
theorem dL_all_47 : decode cL_all 47 = .ok (.iload_n 2, 1) := by decide +kernel
theorem dL_all_48 : decode cL_all 48 = .ok (.iload 12, 2) := by decide +kernel
theorem dL_all_50 : decode cL_all 50 = .ok (.invokestatic 26, 3) := by decide +kernel
theorem dL_all_53 : decode cL_all 53 = .ok (.iload_n 3, 1) := by decide +kernel
theorem dL_all_54 : decode cL_all 54 = .ok (.if_icmp .eq 6, 3) := by decide +kernel
theorem dL_all_57 : decode cL_all 57 = .ok (.goto 198, 3) := by decide +kernel
theorem dL_all_60 : decode cL_all 60 = .ok (.aload 4, 2) := by decide +kernel
theorem dL_all_62 : decode cL_all 62 = .ok (.iconst 0, 1) := by decide +kernel
theorem dL_all_63 : decode cL_all 63 = .ok (.dup2, 1) := by decide +kernel
theorem dL_all_64 : decode cL_all 64 = .ok (.laload, 1) := by decide +kernel
theorem dL_all_65 : decode cL_all 65 = .ok (.lconst 1, 1) := by decide +kernel
theorem dL_all_66 : decode cL_all 66 = .ok (.ladd, 1) := by decide +kernel
theorem dL_all_67 : decode cL_all 67 = .ok (.lastore, 1) := by decide +kernel
theorem dL_all_68 : decode cL_all 68 = .ok (.lload 8, 2) := by decide +kernel
theorem dL_all_70 : decode cL_all 70 = .ok (.aload_n 1, 1) := by decide +kernel
theorem dL_all_71 : decode cL_all 71 = .ok (.bipush 9, 2) := by decide +kernel
theorem dL_all_73 : decode cL_all 73 = .ok (.iload 12, 2) := by decide +kernel
theorem dL_all_75 : decode cL_all 75 = .ok (.imul, 1) := by decide +kernel
theorem dL_all_76 : decode cL_all 76 = .ok (.iconst 3, 1) := by decide +kernel
theorem dL_all_77 : decode cL_all 77 = .ok (.iadd, 1) := by decide +kernel
theorem dL_all_78 : decode cL_all 78 = .ok (.iaload, 1) := by decide +kernel
theorem dL_all_79 : decode cL_all 79 = .ok (.i2l, 1) := by decide +kernel
theorem dL_all_80 : decode cL_all 80 = .ok (.ladd, 1) := by decide +kernel
theorem dL_all_81 : decode cL_all 81 = .ok (.lstore 8, 2) := by decide +kernel
theorem dL_all_83 : decode cL_all 83 = .ok (.aload 4, 2) := by decide +kernel
theorem dL_all_85 : decode cL_all 85 = .ok (.bipush 6, 2) := by decide +kernel
theorem dL_all_87 : decode cL_all 87 = .ok (.dup2, 1) := by decide +kernel
theorem dL_all_88 : decode cL_all 88 = .ok (.laload, 1) := by decide +kernel
theorem dL_all_89 : decode cL_all 89 = .ok (.aload_n 1, 1) := by decide +kernel
theorem dL_all_90 : decode cL_all 90 = .ok (.bipush 9, 2) := by decide +kernel
theorem dL_all_92 : decode cL_all 92 = .ok (.iload 12, 2) := by decide +kernel
theorem dL_all_94 : decode cL_all 94 = .ok (.imul, 1) := by decide +kernel
theorem dL_all_95 : decode cL_all 95 = .ok (.iconst 3, 1) := by decide +kernel
theorem dL_all_96 : decode cL_all 96 = .ok (.iadd, 1) := by decide +kernel
theorem dL_all_97 : decode cL_all 97 = .ok (.iaload, 1) := by decide +kernel
theorem dL_all_98 : decode cL_all 98 = .ok (.i2l, 1) := by decide +kernel
theorem dL_all_99 : decode cL_all 99 = .ok (.aload_n 1, 1) := by decide +kernel
theorem dL_all_100 : decode cL_all 100 = .ok (.bipush 9, 2) := by decide +kernel
theorem dL_all_102 : decode cL_all 102 = .ok (.iload 12, 2) := by decide +kernel
theorem dL_all_104 : decode cL_all 104 = .ok (.imul, 1) := by decide +kernel
theorem dL_all_105 : decode cL_all 105 = .ok (.iconst 4, 1) := by decide +kernel
theorem dL_all_106 : decode cL_all 106 = .ok (.iadd, 1) := by decide +kernel
theorem dL_all_107 : decode cL_all 107 = .ok (.iaload, 1) := by decide +kernel
theorem dL_all_108 : decode cL_all 108 = .ok (.i2l, 1) := by decide +kernel
theorem dL_all_109 : decode cL_all 109 = .ok (.lmul, 1) := by decide +kernel
theorem dL_all_110 : decode cL_all 110 = .ok (.ladd, 1) := by decide +kernel
theorem dL_all_111 : decode cL_all 111 = .ok (.lastore, 1) := by decide +kernel
theorem dL_all_112 : decode cL_all 112 = .ok (.aload_n 1, 1) := by decide +kernel
theorem dL_all_113 : decode cL_all 113 = .ok (.bipush 9, 2) := by decide +kernel
theorem dL_all_115 : decode cL_all 115 = .ok (.iload 12, 2) := by decide +kernel
theorem dL_all_117 : decode cL_all 117 = .ok (.imul, 1) := by decide +kernel
theorem dL_all_118 : decode cL_all 118 = .ok (.iconst 4, 1) := by decide +kernel
theorem dL_all_119 : decode cL_all 119 = .ok (.iadd, 1) := by decide +kernel
theorem dL_all_120 : decode cL_all 120 = .ok (.iaload, 1) := by decide +kernel
theorem dL_all_121 : decode cL_all 121 = .ok (.i2l, 1) := by decide +kernel
theorem dL_all_122 : decode cL_all 122 = .ok (.lload 10, 2) := by decide +kernel
theorem dL_all_124 : decode cL_all 124 = .ok (.lcmp, 1) := by decide +kernel
theorem dL_all_125 : decode cL_all 125 = .ok (.ifCond .le 16, 3) := by decide +kernel
theorem dL_all_128 : decode cL_all 128 = .ok (.aload_n 1, 1) := by decide +kernel
theorem dL_all_129 : decode cL_all 129 = .ok (.bipush 9, 2) := by decide +kernel
theorem dL_all_131 : decode cL_all 131 = .ok (.iload 12, 2) := by decide +kernel
theorem dL_all_133 : decode cL_all 133 = .ok (.imul, 1) := by decide +kernel
theorem dL_all_134 : decode cL_all 134 = .ok (.iconst 4, 1) := by decide +kernel
theorem dL_all_135 : decode cL_all 135 = .ok (.iadd, 1) := by decide +kernel
theorem dL_all_136 : decode cL_all 136 = .ok (.iaload, 1) := by decide +kernel
theorem dL_all_137 : decode cL_all 137 = .ok (.i2l, 1) := by decide +kernel
theorem dL_all_138 : decode cL_all 138 = .ok (.goto 5, 3) := by decide +kernel
theorem dL_all_141 : decode cL_all 141 = .ok (.lload 10, 2) := by decide +kernel
theorem dL_all_143 : decode cL_all 143 = .ok (.lstore 10, 2) := by decide +kernel
theorem dL_all_145 : decode cL_all 145 = .ok (.iload 12, 2) := by decide +kernel
theorem dL_all_147 : decode cL_all 147 = .ok (.iconst 1, 1) := by decide +kernel
theorem dL_all_148 : decode cL_all 148 = .ok (.iadd, 1) := by decide +kernel
theorem dL_all_149 : decode cL_all 149 = .ok (.istore 13, 2) := by decide +kernel
theorem dL_all_151 : decode cL_all 151 = .ok (.iload 13, 2) := by decide +kernel
theorem dL_all_153 : decode cL_all 153 = .ok (.iload_n 2, 1) := by decide +kernel
theorem dL_all_154 : decode cL_all 154 = .ok (.if_icmp .ge 101, 3) := by decide +kernel
theorem dL_all_157 : decode cL_all 157 = .ok (.aload_n 0, 1) := by decide +kernel
theorem dL_all_158 : decode cL_all 158 = .ok (.aload_n 1, 1) := by decide +kernel
theorem dL_all_159 : decode cL_all 159 = .ok (.iload 12, 2) := by decide +kernel
theorem dL_all_161 : decode cL_all 161 = .ok (.iload 13, 2) := by decide +kernel
theorem dL_all_163 : decode cL_all 163 = .ok (.invokestatic 22, 3) := by decide +kernel
theorem dL_all_166 : decode cL_all 166 = .ok (.ifCond .ne 6, 3) := by decide +kernel
theorem dL_all_169 : decode cL_all 169 = .ok (.goto 80, 3) := by decide +kernel
theorem dL_all_172 : decode cL_all 172 = .ok (.lload 6, 2) := by decide +kernel
theorem dL_all_174 : decode cL_all 174 = .ok (.lconst 1, 1) := by decide +kernel
theorem dL_all_175 : decode cL_all 175 = .ok (.ladd, 1) := by decide +kernel
theorem dL_all_176 : decode cL_all 176 = .ok (.lstore 6, 2) := by decide +kernel
theorem dL_all_178 : decode cL_all 178 = .ok (.aload_n 0, 1) := by decide +kernel
theorem dL_all_179 : decode cL_all 179 = .ok (.aload_n 1, 1) := by decide +kernel
theorem dL_all_180 : decode cL_all 180 = .ok (.iload 12, 2) := by decide +kernel
theorem dL_all_182 : decode cL_all 182 = .ok (.iload 13, 2) := by decide +kernel
theorem dL_all_184 : decode cL_all 184 = .ok (.iconst 5, 1) := by decide +kernel
theorem dL_all_185 : decode cL_all 185 = .ok (.aload 5, 2) := by decide +kernel
theorem dL_all_187 : decode cL_all 187 = .ok (.invokestatic 18, 3) := by decide +kernel
theorem dL_all_190 : decode cL_all 190 = .ok (.pop, 1) := by decide +kernel
theorem dL_all_191 : decode cL_all 191 = .ok (.aload 4, 2) := by decide +kernel
theorem dL_all_193 : decode cL_all 193 = .ok (.iconst 1, 1) := by decide +kernel
theorem dL_all_194 : decode cL_all 194 = .ok (.dup2, 1) := by decide +kernel
theorem dL_all_195 : decode cL_all 195 = .ok (.laload, 1) := by decide +kernel
theorem dL_all_196 : decode cL_all 196 = .ok (.aload 5, 2) := by decide +kernel
theorem dL_all_198 : decode cL_all 198 = .ok (.iconst 0, 1) := by decide +kernel
theorem dL_all_199 : decode cL_all 199 = .ok (.laload, 1) := by decide +kernel
theorem dL_all_200 : decode cL_all 200 = .ok (.ladd, 1) := by decide +kernel
theorem dL_all_201 : decode cL_all 201 = .ok (.lastore, 1) := by decide +kernel
theorem dL_all_202 : decode cL_all 202 = .ok (.aload 4, 2) := by decide +kernel
theorem dL_all_204 : decode cL_all 204 = .ok (.iconst 2, 1) := by decide +kernel
theorem dL_all_205 : decode cL_all 205 = .ok (.dup2, 1) := by decide +kernel
theorem dL_all_206 : decode cL_all 206 = .ok (.laload, 1) := by decide +kernel
theorem dL_all_207 : decode cL_all 207 = .ok (.aload 5, 2) := by decide +kernel
theorem dL_all_209 : decode cL_all 209 = .ok (.iconst 1, 1) := by decide +kernel
theorem dL_all_210 : decode cL_all 210 = .ok (.laload, 1) := by decide +kernel
theorem dL_all_211 : decode cL_all 211 = .ok (.ladd, 1) := by decide +kernel
theorem dL_all_212 : decode cL_all 212 = .ok (.lastore, 1) := by decide +kernel
theorem dL_all_213 : decode cL_all 213 = .ok (.aload_n 0, 1) := by decide +kernel
theorem dL_all_214 : decode cL_all 214 = .ok (.aload_n 1, 1) := by decide +kernel
theorem dL_all_215 : decode cL_all 215 = .ok (.iload 12, 2) := by decide +kernel
theorem dL_all_217 : decode cL_all 217 = .ok (.iload 13, 2) := by decide +kernel
theorem dL_all_219 : decode cL_all 219 = .ok (.bipush 7, 2) := by decide +kernel
theorem dL_all_221 : decode cL_all 221 = .ok (.aload 5, 2) := by decide +kernel
theorem dL_all_223 : decode cL_all 223 = .ok (.invokestatic 18, 3) := by decide +kernel
theorem dL_all_226 : decode cL_all 226 = .ok (.pop, 1) := by decide +kernel
theorem dL_all_227 : decode cL_all 227 = .ok (.aload 4, 2) := by decide +kernel
theorem dL_all_229 : decode cL_all 229 = .ok (.iconst 3, 1) := by decide +kernel
theorem dL_all_230 : decode cL_all 230 = .ok (.dup2, 1) := by decide +kernel
theorem dL_all_231 : decode cL_all 231 = .ok (.laload, 1) := by decide +kernel
theorem dL_all_232 : decode cL_all 232 = .ok (.aload 5, 2) := by decide +kernel
theorem dL_all_234 : decode cL_all 234 = .ok (.iconst 0, 1) := by decide +kernel
theorem dL_all_235 : decode cL_all 235 = .ok (.laload, 1) := by decide +kernel
theorem dL_all_236 : decode cL_all 236 = .ok (.ladd, 1) := by decide +kernel
theorem dL_all_237 : decode cL_all 237 = .ok (.lastore, 1) := by decide +kernel
theorem dL_all_238 : decode cL_all 238 = .ok (.aload 4, 2) := by decide +kernel
theorem dL_all_240 : decode cL_all 240 = .ok (.iconst 4, 1) := by decide +kernel
theorem dL_all_241 : decode cL_all 241 = .ok (.dup2, 1) := by decide +kernel
theorem dL_all_242 : decode cL_all 242 = .ok (.laload, 1) := by decide +kernel
theorem dL_all_243 : decode cL_all 243 = .ok (.aload 5, 2) := by decide +kernel
theorem dL_all_245 : decode cL_all 245 = .ok (.iconst 1, 1) := by decide +kernel
theorem dL_all_246 : decode cL_all 246 = .ok (.laload, 1) := by decide +kernel
theorem dL_all_247 : decode cL_all 247 = .ok (.ladd, 1) := by decide +kernel
theorem dL_all_248 : decode cL_all 248 = .ok (.lastore, 1) := by decide +kernel
theorem dL_all_249 : decode cL_all 249 = .ok (.iinc 13 1, 3) := by decide +kernel
theorem dL_all_252 : decode cL_all 252 = .ok (.goto (-101), 3) := by decide +kernel
theorem dL_all_255 : decode cL_all 255 = .ok (.iinc 12 1, 3) := by decide +kernel
theorem dL_all_258 : decode cL_all 258 = .ok (.goto (-219), 3) := by decide +kernel
theorem dL_all_261 : decode cL_all 261 = .ok (.iconst 1, 1) := by decide +kernel
theorem dL_all_262 : decode cL_all 262 = .ok (.istore 12, 2) := by decide +kernel
theorem dL_all_264 : decode cL_all 264 = .ok (.iload 12, 2) := by decide +kernel
theorem dL_all_266 : decode cL_all 266 = .ok (.iconst 5, 1) := by decide +kernel
theorem dL_all_267 : decode cL_all 267 = .ok (.if_icmp .ge 24, 3) := by decide +kernel
theorem dL_all_270 : decode cL_all 270 = .ok (.aload 4, 2) := by decide +kernel
theorem dL_all_272 : decode cL_all 272 = .ok (.iload 12, 2) := by decide +kernel
theorem dL_all_274 : decode cL_all 274 = .ok (.aload 4, 2) := by decide +kernel
theorem dL_all_276 : decode cL_all 276 = .ok (.iload 12, 2) := by decide +kernel
theorem dL_all_278 : decode cL_all 278 = .ok (.laload, 1) := by decide +kernel
theorem dL_all_279 : decode cL_all 279 = .ok (.lload 6, 2) := by decide +kernel
theorem dL_all_281 : decode cL_all 281 = .ok (.invokestatic 12, 3) := by decide +kernel
theorem dL_all_284 : decode cL_all 284 = .ok (.lastore, 1) := by decide +kernel
theorem dL_all_285 : decode cL_all 285 = .ok (.iinc 12 1, 3) := by decide +kernel
theorem dL_all_288 : decode cL_all 288 = .ok (.goto (-24), 3) := by decide +kernel
theorem dL_all_291 : decode cL_all 291 = .ok (.aload 4, 2) := by decide +kernel
theorem dL_all_293 : decode cL_all 293 = .ok (.iconst 3, 1) := by decide +kernel
theorem dL_all_294 : decode cL_all 294 = .ok (.laload, 1) := by decide +kernel
theorem dL_all_295 : decode cL_all 295 = .ok (.aload 4, 2) := by decide +kernel
theorem dL_all_297 : decode cL_all 297 = .ok (.iconst 1, 1) := by decide +kernel
theorem dL_all_298 : decode cL_all 298 = .ok (.laload, 1) := by decide +kernel
theorem dL_all_299 : decode cL_all 299 = .ok (.lsub, 1) := by decide +kernel
theorem dL_all_300 : decode cL_all 300 = .ok (.aload 4, 2) := by decide +kernel
theorem dL_all_302 : decode cL_all 302 = .ok (.iconst 3, 1) := by decide +kernel
theorem dL_all_303 : decode cL_all 303 = .ok (.laload, 1) := by decide +kernel
theorem dL_all_304 : decode cL_all 304 = .ok (.aload 4, 2) := by decide +kernel
theorem dL_all_306 : decode cL_all 306 = .ok (.iconst 1, 1) := by decide +kernel
theorem dL_all_307 : decode cL_all 307 = .ok (.laload, 1) := by decide +kernel
theorem dL_all_308 : decode cL_all 308 = .ok (.lsub, 1) := by decide +kernel
theorem dL_all_309 : decode cL_all 309 = .ok (.lmul, 1) := by decide +kernel
theorem dL_all_310 : decode cL_all 310 = .ok (.aload 4, 2) := by decide +kernel
theorem dL_all_312 : decode cL_all 312 = .ok (.iconst 4, 1) := by decide +kernel
theorem dL_all_313 : decode cL_all 313 = .ok (.laload, 1) := by decide +kernel
theorem dL_all_314 : decode cL_all 314 = .ok (.aload 4, 2) := by decide +kernel
theorem dL_all_316 : decode cL_all 316 = .ok (.iconst 2, 1) := by decide +kernel
theorem dL_all_317 : decode cL_all 317 = .ok (.laload, 1) := by decide +kernel
theorem dL_all_318 : decode cL_all 318 = .ok (.lsub, 1) := by decide +kernel
theorem dL_all_319 : decode cL_all 319 = .ok (.aload 4, 2) := by decide +kernel
theorem dL_all_321 : decode cL_all 321 = .ok (.iconst 4, 1) := by decide +kernel
theorem dL_all_322 : decode cL_all 322 = .ok (.laload, 1) := by decide +kernel
theorem dL_all_323 : decode cL_all 323 = .ok (.aload 4, 2) := by decide +kernel
theorem dL_all_325 : decode cL_all 325 = .ok (.iconst 2, 1) := by decide +kernel
theorem dL_all_326 : decode cL_all 326 = .ok (.laload, 1) := by decide +kernel
theorem dL_all_327 : decode cL_all 327 = .ok (.lsub, 1) := by decide +kernel
theorem dL_all_328 : decode cL_all 328 = .ok (.lmul, 1) := by decide +kernel
theorem dL_all_329 : decode cL_all 329 = .ok (.ladd, 1) := by decide +kernel
theorem dL_all_330 : decode cL_all 330 = .ok (.lstore 12, 2) := by decide +kernel
theorem dL_all_332 : decode cL_all 332 = .ok (.ldc2_w 30, 3) := by decide +kernel
theorem dL_all_335 : decode cL_all 335 = .ok (.lstore 14, 2) := by decide +kernel
theorem dL_all_337 : decode cL_all 337 = .ok (.lconst 0, 1) := by decide +kernel
theorem dL_all_338 : decode cL_all 338 = .ok (.lstore 16, 2) := by decide +kernel
theorem dL_all_340 : decode cL_all 340 = .ok (.lload 14, 2) := by decide +kernel
theorem dL_all_342 : decode cL_all 342 = .ok (.lconst 0, 1) := by decide +kernel
theorem dL_all_343 : decode cL_all 343 = .ok (.lcmp, 1) := by decide +kernel
theorem dL_all_344 : decode cL_all 344 = .ok (.ifCond .le 38, 3) := by decide +kernel
theorem dL_all_347 : decode cL_all 347 = .ok (.lload 16, 2) := by decide +kernel
theorem dL_all_349 : decode cL_all 349 = .ok (.lload 14, 2) := by decide +kernel
theorem dL_all_351 : decode cL_all 351 = .ok (.ladd, 1) := by decide +kernel
theorem dL_all_352 : decode cL_all 352 = .ok (.lload 16, 2) := by decide +kernel
theorem dL_all_354 : decode cL_all 354 = .ok (.lload 14, 2) := by decide +kernel
theorem dL_all_356 : decode cL_all 356 = .ok (.ladd, 1) := by decide +kernel
theorem dL_all_357 : decode cL_all 357 = .ok (.lmul, 1) := by decide +kernel
theorem dL_all_358 : decode cL_all 358 = .ok (.lload 12, 2) := by decide +kernel
theorem dL_all_360 : decode cL_all 360 = .ok (.lcmp, 1) := by decide +kernel
theorem dL_all_361 : decode cL_all 361 = .ok (.ifCond .gt 10, 3) := by decide +kernel
theorem dL_all_364 : decode cL_all 364 = .ok (.lload 16, 2) := by decide +kernel
theorem dL_all_366 : decode cL_all 366 = .ok (.lload 14, 2) := by decide +kernel
theorem dL_all_368 : decode cL_all 368 = .ok (.ladd, 1) := by decide +kernel
theorem dL_all_369 : decode cL_all 369 = .ok (.lstore 16, 2) := by decide +kernel
theorem dL_all_371 : decode cL_all 371 = .ok (.lload 14, 2) := by decide +kernel
theorem dL_all_373 : decode cL_all 373 = .ok (.ldc2_w 32, 3) := by decide +kernel
theorem dL_all_376 : decode cL_all 376 = .ok (.ldiv, 1) := by decide +kernel
theorem dL_all_377 : decode cL_all 377 = .ok (.lstore 14, 2) := by decide +kernel
theorem dL_all_379 : decode cL_all 379 = .ok (.goto (-39), 3) := by decide +kernel
theorem dL_all_382 : decode cL_all 382 = .ok (.aload 4, 2) := by decide +kernel
theorem dL_all_384 : decode cL_all 384 = .ok (.iconst 5, 1) := by decide +kernel
theorem dL_all_385 : decode cL_all 385 = .ok (.ldc2_w 34, 3) := by decide +kernel
theorem dL_all_388 : decode cL_all 388 = .ok (.lload 16, 2) := by decide +kernel
theorem dL_all_390 : decode cL_all 390 = .ok (.lmul, 1) := by decide +kernel
theorem dL_all_391 : decode cL_all 391 = .ok (.aload 4, 2) := by decide +kernel
theorem dL_all_393 : decode cL_all 393 = .ok (.iconst 0, 1) := by decide +kernel
theorem dL_all_394 : decode cL_all 394 = .ok (.laload, 1) := by decide +kernel
theorem dL_all_395 : decode cL_all 395 = .ok (.lmul, 1) := by decide +kernel
theorem dL_all_396 : decode cL_all 396 = .ok (.lload 8, 2) := by decide +kernel
theorem dL_all_398 : decode cL_all 398 = .ok (.ldiv, 1) := by decide +kernel
theorem dL_all_399 : decode cL_all 399 = .ok (.lastore, 1) := by decide +kernel
theorem dL_all_400 : decode cL_all 400 = .ok (.aload 4, 2) := by decide +kernel
theorem dL_all_402 : decode cL_all 402 = .ok (.bipush 6, 2) := by decide +kernel
theorem dL_all_404 : decode cL_all 404 = .ok (.dup2, 1) := by decide +kernel
theorem dL_all_405 : decode cL_all 405 = .ok (.laload, 1) := by decide +kernel
theorem dL_all_406 : decode cL_all 406 = .ok (.aload 4, 2) := by decide +kernel
theorem dL_all_408 : decode cL_all 408 = .ok (.iconst 0, 1) := by decide +kernel
theorem dL_all_409 : decode cL_all 409 = .ok (.laload, 1) := by decide +kernel
theorem dL_all_410 : decode cL_all 410 = .ok (.ldiv, 1) := by decide +kernel
theorem dL_all_411 : decode cL_all 411 = .ok (.lastore, 1) := by decide +kernel
theorem dL_all_412 : decode cL_all 412 = .ok (.aload 4, 2) := by decide +kernel
theorem dL_all_414 : decode cL_all 414 = .ok (.bipush 7, 2) := by decide +kernel
theorem dL_all_416 : decode cL_all 416 = .ok (.ldc2_w 36, 3) := by decide +kernel
theorem dL_all_419 : decode cL_all 419 = .ok (.lload 10, 2) := by decide +kernel
theorem dL_all_421 : decode cL_all 421 = .ok (.lmul, 1) := by decide +kernel
theorem dL_all_422 : decode cL_all 422 = .ok (.aload 4, 2) := by decide +kernel
theorem dL_all_424 : decode cL_all 424 = .ok (.iconst 5, 1) := by decide +kernel
theorem dL_all_425 : decode cL_all 425 = .ok (.laload, 1) := by decide +kernel
theorem dL_all_426 : decode cL_all 426 = .ok (.lconst 1, 1) := by decide +kernel
theorem dL_all_427 : decode cL_all 427 = .ok (.ladd, 1) := by decide +kernel
theorem dL_all_428 : decode cL_all 428 = .ok (.ldiv, 1) := by decide +kernel
theorem dL_all_429 : decode cL_all 429 = .ok (.lastore, 1) := by decide +kernel
theorem dL_all_430 : decode cL_all 430 = .ok (.return_, 1) := by decide +kernel
theorem dL_weight_0 : decode cL_weight 0 = .ok (.lconst 0, 1) := by decide +kernel
theorem dL_weight_1 : decode cL_weight 1 = .ok (.lstore 6, 2) := by decide +kernel
theorem dL_weight_3 : decode cL_weight 3 = .ok (.iconst 1, 1) := by decide +kernel
theorem dL_weight_4 : decode cL_weight 4 = .ok (.istore 8, 2) := by decide +kernel
theorem dL_weight_6 : decode cL_weight 6 = .ok (.iload 8, 2) := by decide +kernel
theorem dL_weight_8 : decode cL_weight 8 = .ok (.bipush 6, 2) := by decide +kernel
theorem dL_weight_10 : decode cL_weight 10 = .ok (.if_icmp .ge 144, 3) := by decide +kernel
theorem dL_weight_13 : decode cL_weight 13 = .ok (.aload_n 1, 1) := by decide +kernel
theorem dL_weight_14 : decode cL_weight 14 = .ok (.iconst 3, 1) := by decide +kernel
theorem dL_weight_15 : decode cL_weight 15 = .ok (.laload, 1) := by decide +kernel
theorem dL_weight_16 : decode cL_weight 16 = .ok (.aload_n 0, 1) := by decide +kernel
theorem dL_weight_17 : decode cL_weight 17 = .ok (.iconst 2, 1) := by decide +kernel
theorem dL_weight_18 : decode cL_weight 18 = .ok (.iload_n 2, 1) := by decide +kernel
theorem dL_weight_19 : decode cL_weight 19 = .ok (.imul, 1) := by decide +kernel
theorem dL_weight_20 : decode cL_weight 20 = .ok (.iaload, 1) := by decide +kernel
theorem dL_weight_21 : decode cL_weight 21 = .ok (.bipush 20, 2) := by decide +kernel
theorem dL_weight_23 : decode cL_weight 23 = .ok (.imul, 1) := by decide +kernel
theorem dL_weight_24 : decode cL_weight 24 = .ok (.bipush 6, 2) := by decide +kernel
theorem dL_weight_26 : decode cL_weight 26 = .ok (.iload 8, 2) := by decide +kernel
theorem dL_weight_28 : decode cL_weight 28 = .ok (.isub, 1) := by decide +kernel
theorem dL_weight_29 : decode cL_weight 29 = .ok (.imul, 1) := by decide +kernel
theorem dL_weight_30 : decode cL_weight 30 = .ok (.i2l, 1) := by decide +kernel
theorem dL_weight_31 : decode cL_weight 31 = .ok (.ladd, 1) := by decide +kernel
theorem dL_weight_32 : decode cL_weight 32 = .ok (.ldc2_w 10, 3) := by decide +kernel
theorem dL_weight_35 : decode cL_weight 35 = .ok (.invokestatic 12, 3) := by decide +kernel
theorem dL_weight_38 : decode cL_weight 38 = .ok (.iload 4, 2) := by decide +kernel
theorem dL_weight_40 : decode cL_weight 40 = .ok (.i2l, 1) := by decide +kernel
theorem dL_weight_41 : decode cL_weight 41 = .ok (.lsub, 1) := by decide +kernel
theorem dL_weight_42 : decode cL_weight 42 = .ok (.lstore 9, 2) := by decide +kernel
theorem dL_weight_44 : decode cL_weight 44 = .ok (.aload_n 1, 1) := by decide +kernel
theorem dL_weight_45 : decode cL_weight 45 = .ok (.iconst 4, 1) := by decide +kernel
theorem dL_weight_46 : decode cL_weight 46 = .ok (.laload, 1) := by decide +kernel
theorem dL_weight_47 : decode cL_weight 47 = .ok (.aload_n 0, 1) := by decide +kernel
theorem dL_weight_48 : decode cL_weight 48 = .ok (.iconst 2, 1) := by decide +kernel
theorem dL_weight_49 : decode cL_weight 49 = .ok (.iload_n 2, 1) := by decide +kernel
theorem dL_weight_50 : decode cL_weight 50 = .ok (.imul, 1) := by decide +kernel
theorem dL_weight_51 : decode cL_weight 51 = .ok (.iconst 1, 1) := by decide +kernel
theorem dL_weight_52 : decode cL_weight 52 = .ok (.iadd, 1) := by decide +kernel
theorem dL_weight_53 : decode cL_weight 53 = .ok (.iaload, 1) := by decide +kernel
theorem dL_weight_54 : decode cL_weight 54 = .ok (.bipush 20, 2) := by decide +kernel
theorem dL_weight_56 : decode cL_weight 56 = .ok (.imul, 1) := by decide +kernel
theorem dL_weight_57 : decode cL_weight 57 = .ok (.bipush 6, 2) := by decide +kernel
theorem dL_weight_59 : decode cL_weight 59 = .ok (.iload 8, 2) := by decide +kernel
theorem dL_weight_61 : decode cL_weight 61 = .ok (.isub, 1) := by decide +kernel
theorem dL_weight_62 : decode cL_weight 62 = .ok (.imul, 1) := by decide +kernel
theorem dL_weight_63 : decode cL_weight 63 = .ok (.i2l, 1) := by decide +kernel
theorem dL_weight_64 : decode cL_weight 64 = .ok (.ladd, 1) := by decide +kernel
theorem dL_weight_65 : decode cL_weight 65 = .ok (.ldc2_w 10, 3) := by decide +kernel
theorem dL_weight_68 : decode cL_weight 68 = .ok (.invokestatic 12, 3) := by decide +kernel
theorem dL_weight_71 : decode cL_weight 71 = .ok (.iload 5, 2) := by decide +kernel
theorem dL_weight_73 : decode cL_weight 73 = .ok (.i2l, 1) := by decide +kernel
theorem dL_weight_74 : decode cL_weight 74 = .ok (.lsub, 1) := by decide +kernel
theorem dL_weight_75 : decode cL_weight 75 = .ok (.lstore 11, 2) := by decide +kernel
theorem dL_weight_77 : decode cL_weight 77 = .ok (.lload 9, 2) := by decide +kernel
theorem dL_weight_79 : decode cL_weight 79 = .ok (.lconst 0, 1) := by decide +kernel
theorem dL_weight_80 : decode cL_weight 80 = .ok (.lcmp, 1) := by decide +kernel
theorem dL_weight_81 : decode cL_weight 81 = .ok (.ifCond .ge 9, 3) := by decide +kernel
theorem dL_weight_84 : decode cL_weight 84 = .ok (.lload 9, 2) := by decide +kernel
theorem dL_weight_86 : decode cL_weight 86 = .ok (.lneg, 1) := by decide +kernel
theorem dL_weight_87 : decode cL_weight 87 = .ok (.goto 5, 3) := by decide +kernel
theorem dL_weight_90 : decode cL_weight 90 = .ok (.lload 9, 2) := by decide +kernel
theorem dL_weight_92 : decode cL_weight 92 = .ok (.lstore 9, 2) := by decide +kernel
theorem dL_weight_94 : decode cL_weight 94 = .ok (.lload 11, 2) := by decide +kernel
theorem dL_weight_96 : decode cL_weight 96 = .ok (.lconst 0, 1) := by decide +kernel
theorem dL_weight_97 : decode cL_weight 97 = .ok (.lcmp, 1) := by decide +kernel
theorem dL_weight_98 : decode cL_weight 98 = .ok (.ifCond .ge 9, 3) := by decide +kernel
theorem dL_weight_101 : decode cL_weight 101 = .ok (.lload 11, 2) := by decide +kernel
theorem dL_weight_103 : decode cL_weight 103 = .ok (.lneg, 1) := by decide +kernel
theorem dL_weight_104 : decode cL_weight 104 = .ok (.goto 5, 3) := by decide +kernel
theorem dL_weight_107 : decode cL_weight 107 = .ok (.lload 11, 2) := by decide +kernel
theorem dL_weight_109 : decode cL_weight 109 = .ok (.lstore 11, 2) := by decide +kernel
theorem dL_weight_111 : decode cL_weight 111 = .ok (.lload 9, 2) := by decide +kernel
theorem dL_weight_113 : decode cL_weight 113 = .ok (.lload 11, 2) := by decide +kernel
theorem dL_weight_115 : decode cL_weight 115 = .ok (.lcmp, 1) := by decide +kernel
theorem dL_weight_116 : decode cL_weight 116 = .ok (.ifCond .le 8, 3) := by decide +kernel
theorem dL_weight_119 : decode cL_weight 119 = .ok (.lload 9, 2) := by decide +kernel
theorem dL_weight_121 : decode cL_weight 121 = .ok (.goto 5, 3) := by decide +kernel
theorem dL_weight_124 : decode cL_weight 124 = .ok (.lload 11, 2) := by decide +kernel
theorem dL_weight_126 : decode cL_weight 126 = .ok (.lstore 13, 2) := by decide +kernel
theorem dL_weight_128 : decode cL_weight 128 = .ok (.lload 13, 2) := by decide +kernel
theorem dL_weight_130 : decode cL_weight 130 = .ok (.ldc2_w 38, 3) := by decide +kernel
theorem dL_weight_133 : decode cL_weight 133 = .ok (.lcmp, 1) := by decide +kernel
theorem dL_weight_134 : decode cL_weight 134 = .ok (.ifCond .ge 14, 3) := by decide +kernel
theorem dL_weight_137 : decode cL_weight 137 = .ok (.lload 6, 2) := by decide +kernel
theorem dL_weight_139 : decode cL_weight 139 = .ok (.ldc2_w 38, 3) := by decide +kernel
theorem dL_weight_142 : decode cL_weight 142 = .ok (.lload 13, 2) := by decide +kernel
theorem dL_weight_144 : decode cL_weight 144 = .ok (.lsub, 1) := by decide +kernel
theorem dL_weight_145 : decode cL_weight 145 = .ok (.ladd, 1) := by decide +kernel
theorem dL_weight_146 : decode cL_weight 146 = .ok (.lstore 6, 2) := by decide +kernel
theorem dL_weight_148 : decode cL_weight 148 = .ok (.iinc 8 1, 3) := by decide +kernel
theorem dL_weight_151 : decode cL_weight 151 = .ok (.goto (-145), 3) := by decide +kernel
theorem dL_weight_154 : decode cL_weight 154 = .ok (.lload 6, 2) := by decide +kernel
theorem dL_weight_156 : decode cL_weight 156 = .ok (.ldc2_w 40, 3) := by decide +kernel
theorem dL_weight_159 : decode cL_weight 159 = .ok (.lmul, 1) := by decide +kernel
theorem dL_weight_160 : decode cL_weight 160 = .ok (.lstore 6, 2) := by decide +kernel
theorem dL_weight_162 : decode cL_weight 162 = .ok (.iconst 0, 1) := by decide +kernel
theorem dL_weight_163 : decode cL_weight 163 = .ok (.istore 8, 2) := by decide +kernel
theorem dL_weight_165 : decode cL_weight 165 = .ok (.iload 8, 2) := by decide +kernel
theorem dL_weight_167 : decode cL_weight 167 = .ok (.aload_n 0, 1) := by decide +kernel
theorem dL_weight_168 : decode cL_weight 168 = .ok (.bipush 10, 2) := by decide +kernel
theorem dL_weight_170 : decode cL_weight 170 = .ok (.iaload, 1) := by decide +kernel
theorem dL_weight_171 : decode cL_weight 171 = .ok (.if_icmp .ge 72, 3) := by decide +kernel
theorem dL_weight_174 : decode cL_weight 174 = .ok (.aload_n 0, 1) := by decide +kernel
theorem dL_weight_175 : decode cL_weight 175 = .ok (.bipush 11, 2) := by decide +kernel
theorem dL_weight_177 : decode cL_weight 177 = .ok (.iconst 4, 1) := by decide +kernel
theorem dL_weight_178 : decode cL_weight 178 = .ok (.iload 8, 2) := by decide +kernel
theorem dL_weight_180 : decode cL_weight 180 = .ok (.imul, 1) := by decide +kernel
theorem dL_weight_181 : decode cL_weight 181 = .ok (.iadd, 1) := by decide +kernel
theorem dL_weight_182 : decode cL_weight 182 = .ok (.iaload, 1) := by decide +kernel
theorem dL_weight_183 : decode cL_weight 183 = .ok (.iload_n 3, 1) := by decide +kernel
theorem dL_weight_184 : decode cL_weight 184 = .ok (.if_icmp .ne 53, 3) := by decide +kernel
theorem dL_weight_187 : decode cL_weight 187 = .ok (.aload_n 0, 1) := by decide +kernel
theorem dL_weight_188 : decode cL_weight 188 = .ok (.bipush 12, 2) := by decide +kernel
theorem dL_weight_190 : decode cL_weight 190 = .ok (.iconst 4, 1) := by decide +kernel
theorem dL_weight_191 : decode cL_weight 191 = .ok (.iload 8, 2) := by decide +kernel
theorem dL_weight_193 : decode cL_weight 193 = .ok (.imul, 1) := by decide +kernel
theorem dL_weight_194 : decode cL_weight 194 = .ok (.iadd, 1) := by decide +kernel
theorem dL_weight_195 : decode cL_weight 195 = .ok (.iaload, 1) := by decide +kernel
theorem dL_weight_196 : decode cL_weight 196 = .ok (.iload 4, 2) := by decide +kernel
theorem dL_weight_198 : decode cL_weight 198 = .ok (.if_icmp .ne 39, 3) := by decide +kernel
theorem dL_weight_201 : decode cL_weight 201 = .ok (.aload_n 0, 1) := by decide +kernel
theorem dL_weight_202 : decode cL_weight 202 = .ok (.bipush 13, 2) := by decide +kernel
theorem dL_weight_204 : decode cL_weight 204 = .ok (.iconst 4, 1) := by decide +kernel
theorem dL_weight_205 : decode cL_weight 205 = .ok (.iload 8, 2) := by decide +kernel
theorem dL_weight_207 : decode cL_weight 207 = .ok (.imul, 1) := by decide +kernel
theorem dL_weight_208 : decode cL_weight 208 = .ok (.iadd, 1) := by decide +kernel
theorem dL_weight_209 : decode cL_weight 209 = .ok (.iaload, 1) := by decide +kernel
theorem dL_weight_210 : decode cL_weight 210 = .ok (.iload 5, 2) := by decide +kernel
theorem dL_weight_212 : decode cL_weight 212 = .ok (.if_icmp .ne 25, 3) := by decide +kernel
theorem dL_weight_215 : decode cL_weight 215 = .ok (.lload 6, 2) := by decide +kernel
theorem dL_weight_217 : decode cL_weight 217 = .ok (.bipush 100, 2) := by decide +kernel
theorem dL_weight_219 : decode cL_weight 219 = .ok (.aload_n 0, 1) := by decide +kernel
theorem dL_weight_220 : decode cL_weight 220 = .ok (.bipush 14, 2) := by decide +kernel
theorem dL_weight_222 : decode cL_weight 222 = .ok (.iconst 4, 1) := by decide +kernel
theorem dL_weight_223 : decode cL_weight 223 = .ok (.iload 8, 2) := by decide +kernel
theorem dL_weight_225 : decode cL_weight 225 = .ok (.imul, 1) := by decide +kernel
theorem dL_weight_226 : decode cL_weight 226 = .ok (.iadd, 1) := by decide +kernel
theorem dL_weight_227 : decode cL_weight 227 = .ok (.iaload, 1) := by decide +kernel
theorem dL_weight_228 : decode cL_weight 228 = .ok (.isub, 1) := by decide +kernel
theorem dL_weight_229 : decode cL_weight 229 = .ok (.i2l, 1) := by decide +kernel
theorem dL_weight_230 : decode cL_weight 230 = .ok (.lmul, 1) := by decide +kernel
theorem dL_weight_231 : decode cL_weight 231 = .ok (.ldc2_w 10, 3) := by decide +kernel
theorem dL_weight_234 : decode cL_weight 234 = .ok (.ldiv, 1) := by decide +kernel
theorem dL_weight_235 : decode cL_weight 235 = .ok (.lstore 6, 2) := by decide +kernel
theorem dL_weight_237 : decode cL_weight 237 = .ok (.iinc 8 1, 3) := by decide +kernel
theorem dL_weight_240 : decode cL_weight 240 = .ok (.goto (-75), 3) := by decide +kernel
theorem dL_weight_243 : decode cL_weight 243 = .ok (.lload 6, 2) := by decide +kernel
theorem dL_weight_245 : decode cL_weight 245 = .ok (.lreturn, 1) := by decide +kernel
theorem dL_chance_0 : decode cL_chance 0 = .ok (.lconst 0, 1) := by decide +kernel
theorem dL_chance_1 : decode cL_chance 1 = .ok (.lstore 6, 2) := by decide +kernel
theorem dL_chance_3 : decode cL_chance 3 = .ok (.iconst 0, 1) := by decide +kernel
theorem dL_chance_4 : decode cL_chance 4 = .ok (.istore 8, 2) := by decide +kernel
theorem dL_chance_6 : decode cL_chance 6 = .ok (.iload 8, 2) := by decide +kernel
theorem dL_chance_8 : decode cL_chance 8 = .ok (.bipush 100, 2) := by decide +kernel
theorem dL_chance_10 : decode cL_chance 10 = .ok (.if_icmp .ge 41, 3) := by decide +kernel
theorem dL_chance_13 : decode cL_chance 13 = .ok (.iconst 0, 1) := by decide +kernel
theorem dL_chance_14 : decode cL_chance 14 = .ok (.istore 9, 2) := by decide +kernel
theorem dL_chance_16 : decode cL_chance 16 = .ok (.iload 9, 2) := by decide +kernel
theorem dL_chance_18 : decode cL_chance 18 = .ok (.bipush 100, 2) := by decide +kernel
theorem dL_chance_20 : decode cL_chance 20 = .ok (.if_icmp .ge 25, 3) := by decide +kernel
theorem dL_chance_23 : decode cL_chance 23 = .ok (.lload 6, 2) := by decide +kernel
theorem dL_chance_25 : decode cL_chance 25 = .ok (.aload_n 0, 1) := by decide +kernel
theorem dL_chance_26 : decode cL_chance 26 = .ok (.aload_n 1, 1) := by decide +kernel
theorem dL_chance_27 : decode cL_chance 27 = .ok (.iload_n 2, 1) := by decide +kernel
theorem dL_chance_28 : decode cL_chance 28 = .ok (.iload_n 3, 1) := by decide +kernel
theorem dL_chance_29 : decode cL_chance 29 = .ok (.iload 8, 2) := by decide +kernel
theorem dL_chance_31 : decode cL_chance 31 = .ok (.iload 9, 2) := by decide +kernel
theorem dL_chance_33 : decode cL_chance 33 = .ok (.invokestatic 42, 3) := by decide +kernel
theorem dL_chance_36 : decode cL_chance 36 = .ok (.ladd, 1) := by decide +kernel
theorem dL_chance_37 : decode cL_chance 37 = .ok (.lstore 6, 2) := by decide +kernel
theorem dL_chance_39 : decode cL_chance 39 = .ok (.iinc 9 1, 3) := by decide +kernel
theorem dL_chance_42 : decode cL_chance 42 = .ok (.goto (-26), 3) := by decide +kernel
theorem dL_chance_45 : decode cL_chance 45 = .ok (.iinc 8 1, 3) := by decide +kernel
theorem dL_chance_48 : decode cL_chance 48 = .ok (.goto (-42), 3) := by decide +kernel
theorem dL_chance_51 : decode cL_chance 51 = .ok (.lload 6, 2) := by decide +kernel
theorem dL_chance_53 : decode cL_chance 53 = .ok (.lconst 0, 1) := by decide +kernel
theorem dL_chance_54 : decode cL_chance 54 = .ok (.lcmp, 1) := by decide +kernel
theorem dL_chance_55 : decode cL_chance 55 = .ok (.ifCond .ne 7, 3) := by decide +kernel
theorem dL_chance_58 : decode cL_chance 58 = .ok (.lconst 0, 1) := by decide +kernel
theorem dL_chance_59 : decode cL_chance 59 = .ok (.goto 21, 3) := by decide +kernel
theorem dL_chance_62 : decode cL_chance 62 = .ok (.aload_n 0, 1) := by decide +kernel
theorem dL_chance_63 : decode cL_chance 63 = .ok (.aload_n 1, 1) := by decide +kernel
theorem dL_chance_64 : decode cL_chance 64 = .ok (.iload_n 2, 1) := by decide +kernel
theorem dL_chance_65 : decode cL_chance 65 = .ok (.iload_n 3, 1) := by decide +kernel
theorem dL_chance_66 : decode cL_chance 66 = .ok (.iload 4, 2) := by decide +kernel
theorem dL_chance_68 : decode cL_chance 68 = .ok (.iload 5, 2) := by decide +kernel
theorem dL_chance_70 : decode cL_chance 70 = .ok (.invokestatic 42, 3) := by decide +kernel
theorem dL_chance_73 : decode cL_chance 73 = .ok (.ldc2_w 40, 3) := by decide +kernel
theorem dL_chance_76 : decode cL_chance 76 = .ok (.lmul, 1) := by decide +kernel
theorem dL_chance_77 : decode cL_chance 77 = .ok (.lload 6, 2) := by decide +kernel
theorem dL_chance_79 : decode cL_chance 79 = .ok (.ldiv, 1) := by decide +kernel
theorem dL_chance_80 : decode cL_chance 80 = .ok (.lreturn, 1) := by decide +kernel
theorem dL_right_0 : decode cL_right 0 = .ok (.iconst 4, 1) := by decide +kernel
theorem dL_right_1 : decode cL_right 1 = .ok (.newarray .int, 2) := by decide +kernel
theorem dL_right_3 : decode cL_right 3 = .ok (.astore 6, 2) := by decide +kernel
theorem dL_right_5 : decode cL_right 5 = .ok (.iconst 0, 1) := by decide +kernel
theorem dL_right_6 : decode cL_right 6 = .ok (.istore 7, 2) := by decide +kernel
theorem dL_right_8 : decode cL_right 8 = .ok (.iload 7, 2) := by decide +kernel
theorem dL_right_10 : decode cL_right 10 = .ok (.iload 4, 2) := by decide +kernel
theorem dL_right_12 : decode cL_right 12 = .ok (.if_icmp .ge 67, 3) := by decide +kernel
theorem dL_right_15 : decode cL_right 15 = .ok (.aload_n 1, 1) := by decide +kernel
theorem dL_right_16 : decode cL_right 16 = .ok (.aload_n 2, 1) := by decide +kernel
theorem dL_right_17 : decode cL_right 17 = .ok (.iload 4, 2) := by decide +kernel
theorem dL_right_19 : decode cL_right 19 = .ok (.iload 7, 2) := by decide +kernel
theorem dL_right_21 : decode cL_right 21 = .ok (.invokestatic 26, 3) := by decide +kernel
theorem dL_right_24 : decode cL_right 24 = .ok (.istore 8, 2) := by decide +kernel
theorem dL_right_26 : decode cL_right 26 = .ok (.aload_n 0, 1) := by decide +kernel
theorem dL_right_27 : decode cL_right 27 = .ok (.iload 7, 2) := by decide +kernel
theorem dL_right_29 : decode cL_right 29 = .ok (.invokevirtual 46, 3) := by decide +kernel
theorem dL_right_32 : decode cL_right 32 = .ok (.iload 8, 2) := by decide +kernel
theorem dL_right_34 : decode cL_right 34 = .ok (.if_icmp .ne 14, 3) := by decide +kernel
theorem dL_right_37 : decode cL_right 37 = .ok (.aload_n 0, 1) := by decide +kernel
theorem dL_right_38 : decode cL_right 38 = .ok (.iload 7, 2) := by decide +kernel
theorem dL_right_40 : decode cL_right 40 = .ok (.invokevirtual 52, 3) := by decide +kernel
theorem dL_right_43 : decode cL_right 43 = .ok (.iload 8, 2) := by decide +kernel
theorem dL_right_45 : decode cL_right 45 = .ok (.if_icmp .eq 5, 3) := by decide +kernel
theorem dL_right_48 : decode cL_right 48 = .ok (.iconst 0, 1) := by decide +kernel
theorem dL_right_49 : decode cL_right 49 = .ok (.ireturn, 1) := by decide +kernel
theorem dL_right_50 : decode cL_right 50 = .ok (.iload 8, 2) := by decide +kernel
theorem dL_right_52 : decode cL_right 52 = .ok (.iload 7, 2) := by decide +kernel
theorem dL_right_54 : decode cL_right 54 = .ok (.if_icmp .ne 19, 3) := by decide +kernel
theorem dL_right_57 : decode cL_right 57 = .ok (.aload 6, 2) := by decide +kernel
theorem dL_right_59 : decode cL_right 59 = .ok (.aload_n 2, 1) := by decide +kernel
theorem dL_right_60 : decode cL_right 60 = .ok (.bipush 9, 2) := by decide +kernel
theorem dL_right_62 : decode cL_right 62 = .ok (.iload 7, 2) := by decide +kernel
theorem dL_right_64 : decode cL_right 64 = .ok (.imul, 1) := by decide +kernel
theorem dL_right_65 : decode cL_right 65 = .ok (.iconst 1, 1) := by decide +kernel
theorem dL_right_66 : decode cL_right 66 = .ok (.iadd, 1) := by decide +kernel
theorem dL_right_67 : decode cL_right 67 = .ok (.iaload, 1) := by decide +kernel
theorem dL_right_68 : decode cL_right 68 = .ok (.dup2, 1) := by decide +kernel
theorem dL_right_69 : decode cL_right 69 = .ok (.iaload, 1) := by decide +kernel
theorem dL_right_70 : decode cL_right 70 = .ok (.iconst 1, 1) := by decide +kernel
theorem dL_right_71 : decode cL_right 71 = .ok (.iadd, 1) := by decide +kernel
theorem dL_right_72 : decode cL_right 72 = .ok (.iastore, 1) := by decide +kernel
theorem dL_right_73 : decode cL_right 73 = .ok (.iinc 7 1, 3) := by decide +kernel
theorem dL_right_76 : decode cL_right 76 = .ok (.goto (-68), 3) := by decide +kernel
theorem dL_right_79 : decode cL_right 79 = .ok (.iconst 0, 1) := by decide +kernel
theorem dL_right_80 : decode cL_right 80 = .ok (.istore 7, 2) := by decide +kernel
theorem dL_right_82 : decode cL_right 82 = .ok (.iload 7, 2) := by decide +kernel
theorem dL_right_84 : decode cL_right 84 = .ok (.iconst 4, 1) := by decide +kernel
theorem dL_right_85 : decode cL_right 85 = .ok (.if_icmp .ge 25, 3) := by decide +kernel
theorem dL_right_88 : decode cL_right 88 = .ok (.aload_n 0, 1) := by decide +kernel
theorem dL_right_89 : decode cL_right 89 = .ok (.iload 7, 2) := by decide +kernel
theorem dL_right_91 : decode cL_right 91 = .ok (.invokevirtual 55, 3) := by decide +kernel
theorem dL_right_94 : decode cL_right 94 = .ok (.aload 6, 2) := by decide +kernel
theorem dL_right_96 : decode cL_right 96 = .ok (.iload 7, 2) := by decide +kernel
theorem dL_right_98 : decode cL_right 98 = .ok (.iaload, 1) := by decide +kernel
theorem dL_right_99 : decode cL_right 99 = .ok (.if_icmp .eq 5, 3) := by decide +kernel
theorem dL_right_102 : decode cL_right 102 = .ok (.iconst 0, 1) := by decide +kernel
theorem dL_right_103 : decode cL_right 103 = .ok (.ireturn, 1) := by decide +kernel
theorem dL_right_104 : decode cL_right 104 = .ok (.iinc 7 1, 3) := by decide +kernel
theorem dL_right_107 : decode cL_right 107 = .ok (.goto (-25), 3) := by decide +kernel
theorem dL_right_110 : decode cL_right 110 = .ok (.bipush 16, 2) := by decide +kernel
theorem dL_right_112 : decode cL_right 112 = .ok (.newarray .long, 2) := by decide +kernel
theorem dL_right_114 : decode cL_right 114 = .ok (.astore 7, 2) := by decide +kernel
theorem dL_right_116 : decode cL_right 116 = .ok (.iconst 0, 1) := by decide +kernel
theorem dL_right_117 : decode cL_right 117 = .ok (.istore 8, 2) := by decide +kernel
theorem dL_right_119 : decode cL_right 119 = .ok (.iload 8, 2) := by decide +kernel
theorem dL_right_121 : decode cL_right 121 = .ok (.iload 4, 2) := by decide +kernel
theorem dL_right_123 : decode cL_right 123 = .ok (.if_icmp .ge 216, 3) := by decide +kernel
theorem dL_right_126 : decode cL_right 126 = .ok (.aload_n 1, 1) := by decide +kernel
theorem dL_right_127 : decode cL_right 127 = .ok (.aload_n 2, 1) := by decide +kernel
theorem dL_right_128 : decode cL_right 128 = .ok (.iload 4, 2) := by decide +kernel
theorem dL_right_130 : decode cL_right 130 = .ok (.iload 8, 2) := by decide +kernel
theorem dL_right_132 : decode cL_right 132 = .ok (.invokestatic 26, 3) := by decide +kernel
theorem dL_right_135 : decode cL_right 135 = .ok (.iload 8, 2) := by decide +kernel
theorem dL_right_137 : decode cL_right 137 = .ok (.if_icmp .eq 6, 3) := by decide +kernel
theorem dL_right_140 : decode cL_right 140 = .ok (.goto 193, 3) := by decide +kernel
theorem dL_right_143 : decode cL_right 143 = .ok (.aload_n 1, 1) := by decide +kernel
theorem dL_right_144 : decode cL_right 144 = .ok (.aload_n 2, 1) := by decide +kernel
theorem dL_right_145 : decode cL_right 145 = .ok (.iload 4, 2) := by decide +kernel
theorem dL_right_147 : decode cL_right 147 = .ok (.iload 8, 2) := by decide +kernel
theorem dL_right_149 : decode cL_right 149 = .ok (.aload 7, 2) := by decide +kernel
theorem dL_right_151 : decode cL_right 151 = .ok (.invokestatic 58, 3) := by decide +kernel
theorem dL_right_154 : decode cL_right 154 = .ok (.iconst 0, 1) := by decide +kernel
theorem dL_right_155 : decode cL_right 155 = .ok (.istore 9, 2) := by decide +kernel
theorem dL_right_157 : decode cL_right 157 = .ok (.iload 9, 2) := by decide +kernel
theorem dL_right_159 : decode cL_right 159 = .ok (.bipush 8, 2) := by decide +kernel
theorem dL_right_161 : decode cL_right 161 = .ok (.if_icmp .ge 28, 3) := by decide +kernel
theorem dL_right_164 : decode cL_right 164 = .ok (.aload_n 0, 1) := by decide +kernel
theorem dL_right_165 : decode cL_right 165 = .ok (.iload 8, 2) := by decide +kernel
theorem dL_right_167 : decode cL_right 167 = .ok (.iload 9, 2) := by decide +kernel
theorem dL_right_169 : decode cL_right 169 = .ok (.invokevirtual 62, 3) := by decide +kernel
theorem dL_right_172 : decode cL_right 172 = .ok (.aload 7, 2) := by decide +kernel
theorem dL_right_174 : decode cL_right 174 = .ok (.iload 9, 2) := by decide +kernel
theorem dL_right_176 : decode cL_right 176 = .ok (.laload, 1) := by decide +kernel
theorem dL_right_177 : decode cL_right 177 = .ok (.lcmp, 1) := by decide +kernel
theorem dL_right_178 : decode cL_right 178 = .ok (.ifCond .eq 5, 3) := by decide +kernel
theorem dL_right_181 : decode cL_right 181 = .ok (.iconst 0, 1) := by decide +kernel
theorem dL_right_182 : decode cL_right 182 = .ok (.ireturn, 1) := by decide +kernel
theorem dL_right_183 : decode cL_right 183 = .ok (.iinc 9 1, 3) := by decide +kernel
theorem dL_right_186 : decode cL_right 186 = .ok (.goto (-29), 3) := by decide +kernel
theorem dL_right_189 : decode cL_right 189 = .ok (.aload 7, 2) := by decide +kernel
theorem dL_right_191 : decode cL_right 191 = .ok (.iconst 3, 1) := by decide +kernel
theorem dL_right_192 : decode cL_right 192 = .ok (.laload, 1) := by decide +kernel
theorem dL_right_193 : decode cL_right 193 = .ok (.lconst 0, 1) := by decide +kernel
theorem dL_right_194 : decode cL_right 194 = .ok (.lcmp, 1) := by decide +kernel
theorem dL_right_195 : decode cL_right 195 = .ok (.ifCond .ge 7, 3) := by decide +kernel
theorem dL_right_198 : decode cL_right 198 = .ok (.lconst 0, 1) := by decide +kernel
theorem dL_right_199 : decode cL_right 199 = .ok (.goto 28, 3) := by decide +kernel
theorem dL_right_202 : decode cL_right 202 = .ok (.aload 7, 2) := by decide +kernel
theorem dL_right_204 : decode cL_right 204 = .ok (.iconst 3, 1) := by decide +kernel
theorem dL_right_205 : decode cL_right 205 = .ok (.laload, 1) := by decide +kernel
theorem dL_right_206 : decode cL_right 206 = .ok (.ldc2_w 66, 3) := by decide +kernel
theorem dL_right_209 : decode cL_right 209 = .ok (.lcmp, 1) := by decide +kernel
theorem dL_right_210 : decode cL_right 210 = .ok (.ifCond .le 9, 3) := by decide +kernel
theorem dL_right_213 : decode cL_right 213 = .ok (.ldc2_w 68, 3) := by decide +kernel
theorem dL_right_216 : decode cL_right 216 = .ok (.goto 11, 3) := by decide +kernel
theorem dL_right_219 : decode cL_right 219 = .ok (.aload 7, 2) := by decide +kernel
theorem dL_right_221 : decode cL_right 221 = .ok (.iconst 3, 1) := by decide +kernel
theorem dL_right_222 : decode cL_right 222 = .ok (.laload, 1) := by decide +kernel
theorem dL_right_223 : decode cL_right 223 = .ok (.ldc2_w 10, 3) := by decide +kernel
theorem dL_right_226 : decode cL_right 226 = .ok (.ldiv, 1) := by decide +kernel
theorem dL_right_227 : decode cL_right 227 = .ok (.l2i, 1) := by decide +kernel
theorem dL_right_228 : decode cL_right 228 = .ok (.istore 9, 2) := by decide +kernel
theorem dL_right_230 : decode cL_right 230 = .ok (.aload 7, 2) := by decide +kernel
theorem dL_right_232 : decode cL_right 232 = .ok (.iconst 4, 1) := by decide +kernel
theorem dL_right_233 : decode cL_right 233 = .ok (.laload, 1) := by decide +kernel
theorem dL_right_234 : decode cL_right 234 = .ok (.lconst 0, 1) := by decide +kernel
theorem dL_right_235 : decode cL_right 235 = .ok (.lcmp, 1) := by decide +kernel
theorem dL_right_236 : decode cL_right 236 = .ok (.ifCond .ge 7, 3) := by decide +kernel
theorem dL_right_239 : decode cL_right 239 = .ok (.lconst 0, 1) := by decide +kernel
theorem dL_right_240 : decode cL_right 240 = .ok (.goto 28, 3) := by decide +kernel
theorem dL_right_243 : decode cL_right 243 = .ok (.aload 7, 2) := by decide +kernel
theorem dL_right_245 : decode cL_right 245 = .ok (.iconst 4, 1) := by decide +kernel
theorem dL_right_246 : decode cL_right 246 = .ok (.laload, 1) := by decide +kernel
theorem dL_right_247 : decode cL_right 247 = .ok (.ldc2_w 66, 3) := by decide +kernel
theorem dL_right_250 : decode cL_right 250 = .ok (.lcmp, 1) := by decide +kernel
theorem dL_right_251 : decode cL_right 251 = .ok (.ifCond .le 9, 3) := by decide +kernel
theorem dL_right_254 : decode cL_right 254 = .ok (.ldc2_w 68, 3) := by decide +kernel
theorem dL_right_257 : decode cL_right 257 = .ok (.goto 11, 3) := by decide +kernel
theorem dL_right_260 : decode cL_right 260 = .ok (.aload 7, 2) := by decide +kernel
theorem dL_right_262 : decode cL_right 262 = .ok (.iconst 4, 1) := by decide +kernel
theorem dL_right_263 : decode cL_right 263 = .ok (.laload, 1) := by decide +kernel
theorem dL_right_264 : decode cL_right 264 = .ok (.ldc2_w 10, 3) := by decide +kernel
theorem dL_right_267 : decode cL_right 267 = .ok (.ldiv, 1) := by decide +kernel
theorem dL_right_268 : decode cL_right 268 = .ok (.l2i, 1) := by decide +kernel
theorem dL_right_269 : decode cL_right 269 = .ok (.istore 10, 2) := by decide +kernel
theorem dL_right_271 : decode cL_right 271 = .ok (.iload 5, 2) := by decide +kernel
theorem dL_right_273 : decode cL_right 273 = .ok (.iconst 2, 1) := by decide +kernel
theorem dL_right_274 : decode cL_right 274 = .ok (.invokestatic 70, 3) := by decide +kernel
theorem dL_right_277 : decode cL_right 277 = .ok (.ifCond .ne 8, 3) := by decide +kernel
theorem dL_right_280 : decode cL_right 280 = .ok (.iload 9, 2) := by decide +kernel
theorem dL_right_282 : decode cL_right 282 = .ok (.goto 12, 3) := by decide +kernel
theorem dL_right_285 : decode cL_right 285 = .ok (.iload 5, 2) := by decide +kernel
theorem dL_right_287 : decode cL_right 287 = .ok (.iconst 1, 1) := by decide +kernel
theorem dL_right_288 : decode cL_right 288 = .ok (.ishr, 1) := by decide +kernel
theorem dL_right_289 : decode cL_right 289 = .ok (.bipush 100, 2) := by decide +kernel
theorem dL_right_291 : decode cL_right 291 = .ok (.invokestatic 70, 3) := by decide +kernel
theorem dL_right_294 : decode cL_right 294 = .ok (.istore 9, 2) := by decide +kernel
theorem dL_right_296 : decode cL_right 296 = .ok (.aload_n 0, 1) := by decide +kernel
theorem dL_right_297 : decode cL_right 297 = .ok (.iload 8, 2) := by decide +kernel
theorem dL_right_299 : decode cL_right 299 = .ok (.iload 9, 2) := by decide +kernel
theorem dL_right_301 : decode cL_right 301 = .ok (.iload 10, 2) := by decide +kernel
theorem dL_right_303 : decode cL_right 303 = .ok (.invokevirtual 74, 3) := by decide +kernel
theorem dL_right_306 : decode cL_right 306 = .ok (.aload_n 3, 1) := by decide +kernel
theorem dL_right_307 : decode cL_right 307 = .ok (.aload 7, 2) := by decide +kernel
theorem dL_right_309 : decode cL_right 309 = .ok (.aload_n 2, 1) := by decide +kernel
theorem dL_right_310 : decode cL_right 310 = .ok (.bipush 9, 2) := by decide +kernel
theorem dL_right_312 : decode cL_right 312 = .ok (.iload 8, 2) := by decide +kernel
theorem dL_right_314 : decode cL_right 314 = .ok (.imul, 1) := by decide +kernel
theorem dL_right_315 : decode cL_right 315 = .ok (.iconst 1, 1) := by decide +kernel
theorem dL_right_316 : decode cL_right 316 = .ok (.iadd, 1) := by decide +kernel
theorem dL_right_317 : decode cL_right 317 = .ok (.iaload, 1) := by decide +kernel
theorem dL_right_318 : decode cL_right 318 = .ok (.iload 8, 2) := by decide +kernel
theorem dL_right_320 : decode cL_right 320 = .ok (.iload 9, 2) := by decide +kernel
theorem dL_right_322 : decode cL_right 322 = .ok (.iload 10, 2) := by decide +kernel
theorem dL_right_324 : decode cL_right 324 = .ok (.invokestatic 78, 3) := by decide +kernel
theorem dL_right_327 : decode cL_right 327 = .ok (.lcmp, 1) := by decide +kernel
theorem dL_right_328 : decode cL_right 328 = .ok (.ifCond .eq 5, 3) := by decide +kernel
theorem dL_right_331 : decode cL_right 331 = .ok (.iconst 0, 1) := by decide +kernel
theorem dL_right_332 : decode cL_right 332 = .ok (.ireturn, 1) := by decide +kernel
theorem dL_right_333 : decode cL_right 333 = .ok (.iinc 8 1, 3) := by decide +kernel
theorem dL_right_336 : decode cL_right 336 = .ok (.goto (-217), 3) := by decide +kernel
theorem dL_right_339 : decode cL_right 339 = .ok (.iconst 1, 1) := by decide +kernel
theorem dL_right_340 : decode cL_right 340 = .ok (.ireturn, 1) := by decide +kernel
theorem dL_law_0 : decode cL_law 0 = .ok (.new 47, 3) := by decide +kernel
theorem dL_law_3 : decode cL_law 3 = .ok (.dup, 1) := by decide +kernel
theorem dL_law_4 : decode cL_law 4 = .ok (.invokespecial 80, 3) := by decide +kernel
theorem dL_law_7 : decode cL_law 7 = .ok (.astore_n 1, 1) := by decide +kernel
theorem dL_law_8 : decode cL_law 8 = .ok (.bipush 16, 2) := by decide +kernel
theorem dL_law_10 : decode cL_law 10 = .ok (.newarray .int, 2) := by decide +kernel
theorem dL_law_12 : decode cL_law 12 = .ok (.astore_n 2, 1) := by decide +kernel
theorem dL_law_13 : decode cL_law 13 = .ok (.bipush 64, 2) := by decide +kernel
theorem dL_law_15 : decode cL_law 15 = .ok (.newarray .int, 2) := by decide +kernel
theorem dL_law_17 : decode cL_law 17 = .ok (.astore_n 3, 1) := by decide +kernel
theorem dL_law_18 : decode cL_law 18 = .ok (.bipush 64, 2) := by decide +kernel
theorem dL_law_20 : decode cL_law 20 = .ok (.newarray .int, 2) := by decide +kernel
theorem dL_law_22 : decode cL_law 22 = .ok (.astore 4, 2) := by decide +kernel
theorem dL_law_24 : decode cL_law 24 = .ok (.iconst 0, 1) := by decide +kernel
theorem dL_law_25 : decode cL_law 25 = .ok (.istore 5, 2) := by decide +kernel
theorem dL_law_27 : decode cL_law 27 = .ok (.iload 5, 2) := by decide +kernel
theorem dL_law_29 : decode cL_law 29 = .ok (.iconst 4, 1) := by decide +kernel
theorem dL_law_30 : decode cL_law 30 = .ok (.if_icmp .ge 101, 3) := by decide +kernel
theorem dL_law_33 : decode cL_law 33 = .ok (.aload_n 0, 1) := by decide +kernel
theorem dL_law_34 : decode cL_law 34 = .ok (.iload 5, 2) := by decide +kernel
theorem dL_law_36 : decode cL_law 36 = .ok (.invokestatic 81, 3) := by decide +kernel
theorem dL_law_39 : decode cL_law 39 = .ok (.istore 6, 2) := by decide +kernel
theorem dL_law_41 : decode cL_law 41 = .ok (.aload_n 2, 1) := by decide +kernel
theorem dL_law_42 : decode cL_law 42 = .ok (.iconst 3, 1) := by decide +kernel
theorem dL_law_43 : decode cL_law 43 = .ok (.iload 5, 2) := by decide +kernel
theorem dL_law_45 : decode cL_law 45 = .ok (.imul, 1) := by decide +kernel
theorem dL_law_46 : decode cL_law 46 = .ok (.iload 6, 2) := by decide +kernel
theorem dL_law_48 : decode cL_law 48 = .ok (.bipush 100, 2) := by decide +kernel
theorem dL_law_50 : decode cL_law 50 = .ok (.invokestatic 70, 3) := by decide +kernel
theorem dL_law_53 : decode cL_law 53 = .ok (.iastore, 1) := by decide +kernel
theorem dL_law_54 : decode cL_law 54 = .ok (.aload_n 2, 1) := by decide +kernel
theorem dL_law_55 : decode cL_law 55 = .ok (.iconst 3, 1) := by decide +kernel
theorem dL_law_56 : decode cL_law 56 = .ok (.iload 5, 2) := by decide +kernel
theorem dL_law_58 : decode cL_law 58 = .ok (.imul, 1) := by decide +kernel
theorem dL_law_59 : decode cL_law 59 = .ok (.iconst 1, 1) := by decide +kernel
theorem dL_law_60 : decode cL_law 60 = .ok (.iadd, 1) := by decide +kernel
theorem dL_law_61 : decode cL_law 61 = .ok (.iload 6, 2) := by decide +kernel
theorem dL_law_63 : decode cL_law 63 = .ok (.bipush 7, 2) := by decide +kernel
theorem dL_law_65 : decode cL_law 65 = .ok (.ishr, 1) := by decide +kernel
theorem dL_law_66 : decode cL_law 66 = .ok (.bipush 100, 2) := by decide +kernel
theorem dL_law_68 : decode cL_law 68 = .ok (.invokestatic 70, 3) := by decide +kernel
theorem dL_law_71 : decode cL_law 71 = .ok (.iastore, 1) := by decide +kernel
theorem dL_law_72 : decode cL_law 72 = .ok (.aload_n 2, 1) := by decide +kernel
theorem dL_law_73 : decode cL_law 73 = .ok (.iconst 3, 1) := by decide +kernel
theorem dL_law_74 : decode cL_law 74 = .ok (.iload 5, 2) := by decide +kernel
theorem dL_law_76 : decode cL_law 76 = .ok (.imul, 1) := by decide +kernel
theorem dL_law_77 : decode cL_law 77 = .ok (.iconst 2, 1) := by decide +kernel
theorem dL_law_78 : decode cL_law 78 = .ok (.iadd, 1) := by decide +kernel
theorem dL_law_79 : decode cL_law 79 = .ok (.iload 6, 2) := by decide +kernel
theorem dL_law_81 : decode cL_law 81 = .ok (.bipush 14, 2) := by decide +kernel
theorem dL_law_83 : decode cL_law 83 = .ok (.ishr, 1) := by decide +kernel
theorem dL_law_84 : decode cL_law 84 = .ok (.bipush 11, 2) := by decide +kernel
theorem dL_law_86 : decode cL_law 86 = .ok (.invokestatic 70, 3) := by decide +kernel
theorem dL_law_89 : decode cL_law 89 = .ok (.iconst 5, 1) := by decide +kernel
theorem dL_law_90 : decode cL_law 90 = .ok (.isub, 1) := by decide +kernel
theorem dL_law_91 : decode cL_law 91 = .ok (.iastore, 1) := by decide +kernel
theorem dL_law_92 : decode cL_law 92 = .ok (.aload_n 1, 1) := by decide +kernel
theorem dL_law_93 : decode cL_law 93 = .ok (.aload_n 2, 1) := by decide +kernel
theorem dL_law_94 : decode cL_law 94 = .ok (.iconst 3, 1) := by decide +kernel
theorem dL_law_95 : decode cL_law 95 = .ok (.iload 5, 2) := by decide +kernel
theorem dL_law_97 : decode cL_law 97 = .ok (.imul, 1) := by decide +kernel
theorem dL_law_98 : decode cL_law 98 = .ok (.iaload, 1) := by decide +kernel
theorem dL_law_99 : decode cL_law 99 = .ok (.aload_n 2, 1) := by decide +kernel
theorem dL_law_100 : decode cL_law 100 = .ok (.iconst 3, 1) := by decide +kernel
theorem dL_law_101 : decode cL_law 101 = .ok (.iload 5, 2) := by decide +kernel
theorem dL_law_103 : decode cL_law 103 = .ok (.imul, 1) := by decide +kernel
theorem dL_law_104 : decode cL_law 104 = .ok (.iconst 1, 1) := by decide +kernel
theorem dL_law_105 : decode cL_law 105 = .ok (.iadd, 1) := by decide +kernel
theorem dL_law_106 : decode cL_law 106 = .ok (.iaload, 1) := by decide +kernel
theorem dL_law_107 : decode cL_law 107 = .ok (.aload_n 2, 1) := by decide +kernel
theorem dL_law_108 : decode cL_law 108 = .ok (.iconst 3, 1) := by decide +kernel
theorem dL_law_109 : decode cL_law 109 = .ok (.iload 5, 2) := by decide +kernel
theorem dL_law_111 : decode cL_law 111 = .ok (.imul, 1) := by decide +kernel
theorem dL_law_112 : decode cL_law 112 = .ok (.iconst 2, 1) := by decide +kernel
theorem dL_law_113 : decode cL_law 113 = .ok (.iadd, 1) := by decide +kernel
theorem dL_law_114 : decode cL_law 114 = .ok (.iaload, 1) := by decide +kernel
theorem dL_law_115 : decode cL_law 115 = .ok (.invokevirtual 85, 3) := by decide +kernel
theorem dL_law_118 : decode cL_law 118 = .ok (.iload 5, 2) := by decide +kernel
theorem dL_law_120 : decode cL_law 120 = .ok (.if_icmp .eq 5, 3) := by decide +kernel
theorem dL_law_123 : decode cL_law 123 = .ok (.iconst 0, 1) := by decide +kernel
theorem dL_law_124 : decode cL_law 124 = .ok (.ireturn, 1) := by decide +kernel
theorem dL_law_125 : decode cL_law 125 = .ok (.iinc 5 1, 3) := by decide +kernel
theorem dL_law_128 : decode cL_law 128 = .ok (.goto (-101), 3) := by decide +kernel
theorem dL_law_131 : decode cL_law 131 = .ok (.iconst 0, 1) := by decide +kernel
theorem dL_law_132 : decode cL_law 132 = .ok (.istore 5, 2) := by decide +kernel
theorem dL_law_134 : decode cL_law 134 = .ok (.iconst 4, 1) := by decide +kernel
theorem dL_law_135 : decode cL_law 135 = .ok (.istore 6, 2) := by decide +kernel
theorem dL_law_137 : decode cL_law 137 = .ok (.iconst 0, 1) := by decide +kernel
theorem dL_law_138 : decode cL_law 138 = .ok (.istore 7, 2) := by decide +kernel
theorem dL_law_140 : decode cL_law 140 = .ok (.iload 7, 2) := by decide +kernel
theorem dL_law_142 : decode cL_law 142 = .ok (.bipush 9, 2) := by decide +kernel
theorem dL_law_144 : decode cL_law 144 = .ok (.if_icmp .ge 816, 3) := by decide +kernel
theorem dL_law_147 : decode cL_law 147 = .ok (.aload_n 0, 1) := by decide +kernel
theorem dL_law_148 : decode cL_law 148 = .ok (.iload 6, 2) := by decide +kernel
theorem dL_law_150 : decode cL_law 150 = .ok (.invokestatic 81, 3) := by decide +kernel
theorem dL_law_153 : decode cL_law 153 = .ok (.istore 8, 2) := by decide +kernel
theorem dL_law_155 : decode cL_law 155 = .ok (.aload_n 0, 1) := by decide +kernel
theorem dL_law_156 : decode cL_law 156 = .ok (.iload 6, 2) := by decide +kernel
theorem dL_law_158 : decode cL_law 158 = .ok (.iconst 1, 1) := by decide +kernel
theorem dL_law_159 : decode cL_law 159 = .ok (.iadd, 1) := by decide +kernel
theorem dL_law_160 : decode cL_law 160 = .ok (.invokestatic 81, 3) := by decide +kernel
theorem dL_law_163 : decode cL_law 163 = .ok (.istore 9, 2) := by decide +kernel
theorem dL_law_165 : decode cL_law 165 = .ok (.iinc 6 2, 3) := by decide +kernel
theorem dL_law_168 : decode cL_law 168 = .ok (.iload 5, 2) := by decide +kernel
theorem dL_law_170 : decode cL_law 170 = .ok (.bipush 7, 2) := by decide +kernel
theorem dL_law_172 : decode cL_law 172 = .ok (.if_icmp .ge 379, 3) := by decide +kernel
theorem dL_law_175 : decode cL_law 175 = .ok (.bipush 9, 2) := by decide +kernel
theorem dL_law_177 : decode cL_law 177 = .ok (.iload 5, 2) := by decide +kernel
theorem dL_law_179 : decode cL_law 179 = .ok (.imul, 1) := by decide +kernel
theorem dL_law_180 : decode cL_law 180 = .ok (.istore 10, 2) := by decide +kernel
theorem dL_law_182 : decode cL_law 182 = .ok (.aload_n 3, 1) := by decide +kernel
theorem dL_law_183 : decode cL_law 183 = .ok (.iload 10, 2) := by decide +kernel
theorem dL_law_185 : decode cL_law 185 = .ok (.iload 8, 2) := by decide +kernel
theorem dL_law_187 : decode cL_law 187 = .ok (.iconst 4, 1) := by decide +kernel
theorem dL_law_188 : decode cL_law 188 = .ok (.invokestatic 70, 3) := by decide +kernel
theorem dL_law_191 : decode cL_law 191 = .ok (.iastore, 1) := by decide +kernel
theorem dL_law_192 : decode cL_law 192 = .ok (.aload_n 3, 1) := by decide +kernel
theorem dL_law_193 : decode cL_law 193 = .ok (.iload 10, 2) := by decide +kernel
theorem dL_law_195 : decode cL_law 195 = .ok (.iconst 1, 1) := by decide +kernel
theorem dL_law_196 : decode cL_law 196 = .ok (.iadd, 1) := by decide +kernel
theorem dL_law_197 : decode cL_law 197 = .ok (.iload 8, 2) := by decide +kernel
theorem dL_law_199 : decode cL_law 199 = .ok (.iconst 2, 1) := by decide +kernel
theorem dL_law_200 : decode cL_law 200 = .ok (.ishr, 1) := by decide +kernel
theorem dL_law_201 : decode cL_law 201 = .ok (.bipush 8, 2) := by decide +kernel
theorem dL_law_203 : decode cL_law 203 = .ok (.invokestatic 70, 3) := by decide +kernel
theorem dL_law_206 : decode cL_law 206 = .ok (.ifCond .ne 7, 3) := by decide +kernel
theorem dL_law_209 : decode cL_law 209 = .ok (.iconst 1, 1) := by decide +kernel
theorem dL_law_210 : decode cL_law 210 = .ok (.goto 4, 3) := by decide +kernel
theorem dL_law_213 : decode cL_law 213 = .ok (.iconst 0, 1) := by decide +kernel
theorem dL_law_214 : decode cL_law 214 = .ok (.iastore, 1) := by decide +kernel
theorem dL_law_215 : decode cL_law 215 = .ok (.aload_n 3, 1) := by decide +kernel
theorem dL_law_216 : decode cL_law 216 = .ok (.iload 10, 2) := by decide +kernel
theorem dL_law_218 : decode cL_law 218 = .ok (.iconst 2, 1) := by decide +kernel
theorem dL_law_219 : decode cL_law 219 = .ok (.iadd, 1) := by decide +kernel
theorem dL_law_220 : decode cL_law 220 = .ok (.sipush 1000, 3) := by decide +kernel
theorem dL_law_223 : decode cL_law 223 = .ok (.iload 8, 2) := by decide +kernel
theorem dL_law_225 : decode cL_law 225 = .ok (.iconst 5, 1) := by decide +kernel
theorem dL_law_226 : decode cL_law 226 = .ok (.ishr, 1) := by decide +kernel
theorem dL_law_227 : decode cL_law 227 = .ok (.bipush 12, 2) := by decide +kernel
theorem dL_law_229 : decode cL_law 229 = .ok (.invokestatic 70, 3) := by decide +kernel
theorem dL_law_232 : decode cL_law 232 = .ok (.iadd, 1) := by decide +kernel
theorem dL_law_233 : decode cL_law 233 = .ok (.iastore, 1) := by decide +kernel
theorem dL_law_234 : decode cL_law 234 = .ok (.aload_n 3, 1) := by decide +kernel
theorem dL_law_235 : decode cL_law 235 = .ok (.iload 10, 2) := by decide +kernel
theorem dL_law_237 : decode cL_law 237 = .ok (.iconst 3, 1) := by decide +kernel
theorem dL_law_238 : decode cL_law 238 = .ok (.iadd, 1) := by decide +kernel
theorem dL_law_239 : decode cL_law 239 = .ok (.iconst 1, 1) := by decide +kernel
theorem dL_law_240 : decode cL_law 240 = .ok (.iload 8, 2) := by decide +kernel
theorem dL_law_242 : decode cL_law 242 = .ok (.bipush 9, 2) := by decide +kernel
theorem dL_law_244 : decode cL_law 244 = .ok (.ishr, 1) := by decide +kernel
theorem dL_law_245 : decode cL_law 245 = .ok (.iload 8, 2) := by decide +kernel
theorem dL_law_247 : decode cL_law 247 = .ok (.bipush 14, 2) := by decide +kernel
theorem dL_law_249 : decode cL_law 249 = .ok (.ishr, 1) := by decide +kernel
theorem dL_law_250 : decode cL_law 250 = .ok (.iconst 5, 1) := by decide +kernel
theorem dL_law_251 : decode cL_law 251 = .ok (.invokestatic 70, 3) := by decide +kernel
theorem dL_law_254 : decode cL_law 254 = .ok (.ifCond .ne 8, 3) := by decide +kernel
theorem dL_law_257 : decode cL_law 257 = .ok (.bipush 60, 2) := by decide +kernel
theorem dL_law_259 : decode cL_law 259 = .ok (.goto 5, 3) := by decide +kernel
theorem dL_law_262 : decode cL_law 262 = .ok (.bipush 30, 2) := by decide +kernel
theorem dL_law_264 : decode cL_law 264 = .ok (.invokestatic 70, 3) := by decide +kernel
theorem dL_law_267 : decode cL_law 267 = .ok (.iadd, 1) := by decide +kernel
theorem dL_law_268 : decode cL_law 268 = .ok (.iastore, 1) := by decide +kernel
theorem dL_law_269 : decode cL_law 269 = .ok (.aload_n 3, 1) := by decide +kernel
theorem dL_law_270 : decode cL_law 270 = .ok (.iload 10, 2) := by decide +kernel
theorem dL_law_272 : decode cL_law 272 = .ok (.iconst 4, 1) := by decide +kernel
theorem dL_law_273 : decode cL_law 273 = .ok (.iadd, 1) := by decide +kernel
theorem dL_law_274 : decode cL_law 274 = .ok (.bipush 40, 2) := by decide +kernel
theorem dL_law_276 : decode cL_law 276 = .ok (.iload 8, 2) := by decide +kernel
theorem dL_law_278 : decode cL_law 278 = .ok (.bipush 17, 2) := by decide +kernel
theorem dL_law_280 : decode cL_law 280 = .ok (.ishr, 1) := by decide +kernel
theorem dL_law_281 : decode cL_law 281 = .ok (.sipush 400, 3) := by decide +kernel
theorem dL_law_284 : decode cL_law 284 = .ok (.invokestatic 70, 3) := by decide +kernel
theorem dL_law_287 : decode cL_law 287 = .ok (.iadd, 1) := by decide +kernel
theorem dL_law_288 : decode cL_law 288 = .ok (.iastore, 1) := by decide +kernel
theorem dL_law_289 : decode cL_law 289 = .ok (.bipush 20, 2) := by decide +kernel
theorem dL_law_291 : decode cL_law 291 = .ok (.iload 9, 2) := by decide +kernel
theorem dL_law_293 : decode cL_law 293 = .ok (.bipush 60, 2) := by decide +kernel
theorem dL_law_295 : decode cL_law 295 = .ok (.invokestatic 70, 3) := by decide +kernel
theorem dL_law_298 : decode cL_law 298 = .ok (.iadd, 1) := by decide +kernel
theorem dL_law_299 : decode cL_law 299 = .ok (.istore 11, 2) := by decide +kernel
theorem dL_law_301 : decode cL_law 301 = .ok (.bipush 20, 2) := by decide +kernel
theorem dL_law_303 : decode cL_law 303 = .ok (.iload 9, 2) := by decide +kernel
theorem dL_law_305 : decode cL_law 305 = .ok (.bipush 6, 2) := by decide +kernel
theorem dL_law_307 : decode cL_law 307 = .ok (.ishr, 1) := by decide +kernel
theorem dL_law_308 : decode cL_law 308 = .ok (.bipush 60, 2) := by decide +kernel
theorem dL_law_310 : decode cL_law 310 = .ok (.invokestatic 70, 3) := by decide +kernel
theorem dL_law_313 : decode cL_law 313 = .ok (.iadd, 1) := by decide +kernel
theorem dL_law_314 : decode cL_law 314 = .ok (.istore 12, 2) := by decide +kernel
theorem dL_law_316 : decode cL_law 316 = .ok (.bipush 20, 2) := by decide +kernel
theorem dL_law_318 : decode cL_law 318 = .ok (.iload 9, 2) := by decide +kernel
theorem dL_law_320 : decode cL_law 320 = .ok (.bipush 12, 2) := by decide +kernel
theorem dL_law_322 : decode cL_law 322 = .ok (.ishr, 1) := by decide +kernel
theorem dL_law_323 : decode cL_law 323 = .ok (.bipush 60, 2) := by decide +kernel
theorem dL_law_325 : decode cL_law 325 = .ok (.invokestatic 70, 3) := by decide +kernel
theorem dL_law_328 : decode cL_law 328 = .ok (.iadd, 1) := by decide +kernel
theorem dL_law_329 : decode cL_law 329 = .ok (.istore 13, 2) := by decide +kernel
theorem dL_law_331 : decode cL_law 331 = .ok (.bipush 20, 2) := by decide +kernel
theorem dL_law_333 : decode cL_law 333 = .ok (.iload 9, 2) := by decide +kernel
theorem dL_law_335 : decode cL_law 335 = .ok (.bipush 18, 2) := by decide +kernel
theorem dL_law_337 : decode cL_law 337 = .ok (.ishr, 1) := by decide +kernel
theorem dL_law_338 : decode cL_law 338 = .ok (.bipush 60, 2) := by decide +kernel
theorem dL_law_340 : decode cL_law 340 = .ok (.invokestatic 70, 3) := by decide +kernel
theorem dL_law_343 : decode cL_law 343 = .ok (.iadd, 1) := by decide +kernel
theorem dL_law_344 : decode cL_law 344 = .ok (.istore 14, 2) := by decide +kernel
theorem dL_law_346 : decode cL_law 346 = .ok (.aload_n 3, 1) := by decide +kernel
theorem dL_law_347 : decode cL_law 347 = .ok (.iload 10, 2) := by decide +kernel
theorem dL_law_349 : decode cL_law 349 = .ok (.iconst 5, 1) := by decide +kernel
theorem dL_law_350 : decode cL_law 350 = .ok (.iadd, 1) := by decide +kernel
theorem dL_law_351 : decode cL_law 351 = .ok (.iload 11, 2) := by decide +kernel
theorem dL_law_353 : decode cL_law 353 = .ok (.aload_n 2, 1) := by decide +kernel
theorem dL_law_354 : decode cL_law 354 = .ok (.iconst 3, 1) := by decide +kernel
theorem dL_law_355 : decode cL_law 355 = .ok (.aload_n 3, 1) := by decide +kernel
theorem dL_law_356 : decode cL_law 356 = .ok (.iload 10, 2) := by decide +kernel
theorem dL_law_358 : decode cL_law 358 = .ok (.iaload, 1) := by decide +kernel
theorem dL_law_359 : decode cL_law 359 = .ok (.imul, 1) := by decide +kernel
theorem dL_law_360 : decode cL_law 360 = .ok (.iaload, 1) := by decide +kernel
theorem dL_law_361 : decode cL_law 361 = .ok (.isub, 1) := by decide +kernel
theorem dL_law_362 : decode cL_law 362 = .ok (.iastore, 1) := by decide +kernel
theorem dL_law_363 : decode cL_law 363 = .ok (.aload_n 3, 1) := by decide +kernel
theorem dL_law_364 : decode cL_law 364 = .ok (.iload 10, 2) := by decide +kernel
theorem dL_law_366 : decode cL_law 366 = .ok (.bipush 6, 2) := by decide +kernel
theorem dL_law_368 : decode cL_law 368 = .ok (.iadd, 1) := by decide +kernel
theorem dL_law_369 : decode cL_law 369 = .ok (.iload 12, 2) := by decide +kernel
theorem dL_law_371 : decode cL_law 371 = .ok (.aload_n 2, 1) := by decide +kernel
theorem dL_law_372 : decode cL_law 372 = .ok (.iconst 3, 1) := by decide +kernel
theorem dL_law_373 : decode cL_law 373 = .ok (.aload_n 3, 1) := by decide +kernel
theorem dL_law_374 : decode cL_law 374 = .ok (.iload 10, 2) := by decide +kernel
theorem dL_law_376 : decode cL_law 376 = .ok (.iaload, 1) := by decide +kernel
theorem dL_law_377 : decode cL_law 377 = .ok (.imul, 1) := by decide +kernel
theorem dL_law_378 : decode cL_law 378 = .ok (.iconst 1, 1) := by decide +kernel
theorem dL_law_379 : decode cL_law 379 = .ok (.iadd, 1) := by decide +kernel
theorem dL_law_380 : decode cL_law 380 = .ok (.iaload, 1) := by decide +kernel
theorem dL_law_381 : decode cL_law 381 = .ok (.isub, 1) := by decide +kernel
theorem dL_law_382 : decode cL_law 382 = .ok (.iastore, 1) := by decide +kernel
theorem dL_law_383 : decode cL_law 383 = .ok (.aload_n 3, 1) := by decide +kernel
theorem dL_law_384 : decode cL_law 384 = .ok (.iload 10, 2) := by decide +kernel
theorem dL_law_386 : decode cL_law 386 = .ok (.bipush 7, 2) := by decide +kernel
theorem dL_law_388 : decode cL_law 388 = .ok (.iadd, 1) := by decide +kernel
theorem dL_law_389 : decode cL_law 389 = .ok (.iload 13, 2) := by decide +kernel
theorem dL_law_391 : decode cL_law 391 = .ok (.aload_n 2, 1) := by decide +kernel
theorem dL_law_392 : decode cL_law 392 = .ok (.iconst 3, 1) := by decide +kernel
theorem dL_law_393 : decode cL_law 393 = .ok (.aload_n 3, 1) := by decide +kernel
theorem dL_law_394 : decode cL_law 394 = .ok (.iload 10, 2) := by decide +kernel
theorem dL_law_396 : decode cL_law 396 = .ok (.iaload, 1) := by decide +kernel
theorem dL_law_397 : decode cL_law 397 = .ok (.imul, 1) := by decide +kernel
theorem dL_law_398 : decode cL_law 398 = .ok (.iaload, 1) := by decide +kernel
theorem dL_law_399 : decode cL_law 399 = .ok (.isub, 1) := by decide +kernel
theorem dL_law_400 : decode cL_law 400 = .ok (.iastore, 1) := by decide +kernel
theorem dL_law_401 : decode cL_law 401 = .ok (.aload_n 3, 1) := by decide +kernel
theorem dL_law_402 : decode cL_law 402 = .ok (.iload 10, 2) := by decide +kernel
theorem dL_law_404 : decode cL_law 404 = .ok (.bipush 8, 2) := by decide +kernel
theorem dL_law_406 : decode cL_law 406 = .ok (.iadd, 1) := by decide +kernel
theorem dL_law_407 : decode cL_law 407 = .ok (.iload 14, 2) := by decide +kernel
theorem dL_law_409 : decode cL_law 409 = .ok (.aload_n 2, 1) := by decide +kernel
theorem dL_law_410 : decode cL_law 410 = .ok (.iconst 3, 1) := by decide +kernel
theorem dL_law_411 : decode cL_law 411 = .ok (.aload_n 3, 1) := by decide +kernel
theorem dL_law_412 : decode cL_law 412 = .ok (.iload 10, 2) := by decide +kernel
theorem dL_law_414 : decode cL_law 414 = .ok (.iaload, 1) := by decide +kernel
theorem dL_law_415 : decode cL_law 415 = .ok (.imul, 1) := by decide +kernel
theorem dL_law_416 : decode cL_law 416 = .ok (.iconst 1, 1) := by decide +kernel
theorem dL_law_417 : decode cL_law 417 = .ok (.iadd, 1) := by decide +kernel
theorem dL_law_418 : decode cL_law 418 = .ok (.iaload, 1) := by decide +kernel
theorem dL_law_419 : decode cL_law 419 = .ok (.isub, 1) := by decide +kernel
theorem dL_law_420 : decode cL_law 420 = .ok (.iastore, 1) := by decide +kernel
theorem dL_law_421 : decode cL_law 421 = .ok (.aload_n 3, 1) := by decide +kernel
theorem dL_law_422 : decode cL_law 422 = .ok (.iload 10, 2) := by decide +kernel
theorem dL_law_424 : decode cL_law 424 = .ok (.iconst 5, 1) := by decide +kernel
theorem dL_law_425 : decode cL_law 425 = .ok (.iadd, 1) := by decide +kernel
theorem dL_law_426 : decode cL_law 426 = .ok (.iaload, 1) := by decide +kernel
theorem dL_law_427 : decode cL_law 427 = .ok (.ifCond .ne 20, 3) := by decide +kernel
theorem dL_law_430 : decode cL_law 430 = .ok (.aload_n 3, 1) := by decide +kernel
theorem dL_law_431 : decode cL_law 431 = .ok (.iload 10, 2) := by decide +kernel
theorem dL_law_433 : decode cL_law 433 = .ok (.bipush 6, 2) := by decide +kernel
theorem dL_law_435 : decode cL_law 435 = .ok (.iadd, 1) := by decide +kernel
theorem dL_law_436 : decode cL_law 436 = .ok (.iaload, 1) := by decide +kernel
theorem dL_law_437 : decode cL_law 437 = .ok (.ifCond .ne 10, 3) := by decide +kernel
theorem dL_law_440 : decode cL_law 440 = .ok (.aload_n 3, 1) := by decide +kernel
theorem dL_law_441 : decode cL_law 441 = .ok (.iload 10, 2) := by decide +kernel
theorem dL_law_443 : decode cL_law 443 = .ok (.iconst 5, 1) := by decide +kernel
theorem dL_law_444 : decode cL_law 444 = .ok (.iadd, 1) := by decide +kernel
theorem dL_law_445 : decode cL_law 445 = .ok (.iconst 1, 1) := by decide +kernel
theorem dL_law_446 : decode cL_law 446 = .ok (.iastore, 1) := by decide +kernel
theorem dL_law_447 : decode cL_law 447 = .ok (.aload_n 3, 1) := by decide +kernel
theorem dL_law_448 : decode cL_law 448 = .ok (.iload 10, 2) := by decide +kernel
theorem dL_law_450 : decode cL_law 450 = .ok (.bipush 7, 2) := by decide +kernel
theorem dL_law_452 : decode cL_law 452 = .ok (.iadd, 1) := by decide +kernel
theorem dL_law_453 : decode cL_law 453 = .ok (.iaload, 1) := by decide +kernel
theorem dL_law_454 : decode cL_law 454 = .ok (.ifCond .ne 21, 3) := by decide +kernel
theorem dL_law_457 : decode cL_law 457 = .ok (.aload_n 3, 1) := by decide +kernel
theorem dL_law_458 : decode cL_law 458 = .ok (.iload 10, 2) := by decide +kernel
theorem dL_law_460 : decode cL_law 460 = .ok (.bipush 8, 2) := by decide +kernel
theorem dL_law_462 : decode cL_law 462 = .ok (.iadd, 1) := by decide +kernel
theorem dL_law_463 : decode cL_law 463 = .ok (.iaload, 1) := by decide +kernel
theorem dL_law_464 : decode cL_law 464 = .ok (.ifCond .ne 11, 3) := by decide +kernel
theorem dL_law_467 : decode cL_law 467 = .ok (.aload_n 3, 1) := by decide +kernel
theorem dL_law_468 : decode cL_law 468 = .ok (.iload 10, 2) := by decide +kernel
theorem dL_law_470 : decode cL_law 470 = .ok (.bipush 8, 2) := by decide +kernel
theorem dL_law_472 : decode cL_law 472 = .ok (.iadd, 1) := by decide +kernel
theorem dL_law_473 : decode cL_law 473 = .ok (.iconst (-1), 1) := by decide +kernel
theorem dL_law_474 : decode cL_law 474 = .ok (.iastore, 1) := by decide +kernel
theorem dL_law_475 : decode cL_law 475 = .ok (.aload_n 1, 1) := by decide +kernel
theorem dL_law_476 : decode cL_law 476 = .ok (.aload_n 3, 1) := by decide +kernel
theorem dL_law_477 : decode cL_law 477 = .ok (.iload 10, 2) := by decide +kernel
theorem dL_law_479 : decode cL_law 479 = .ok (.iaload, 1) := by decide +kernel
theorem dL_law_480 : decode cL_law 480 = .ok (.aload_n 3, 1) := by decide +kernel
theorem dL_law_481 : decode cL_law 481 = .ok (.iload 10, 2) := by decide +kernel
theorem dL_law_483 : decode cL_law 483 = .ok (.iconst 1, 1) := by decide +kernel
theorem dL_law_484 : decode cL_law 484 = .ok (.iadd, 1) := by decide +kernel
theorem dL_law_485 : decode cL_law 485 = .ok (.iaload, 1) := by decide +kernel
theorem dL_law_486 : decode cL_law 486 = .ok (.aload_n 3, 1) := by decide +kernel
theorem dL_law_487 : decode cL_law 487 = .ok (.iload 10, 2) := by decide +kernel
theorem dL_law_489 : decode cL_law 489 = .ok (.iconst 2, 1) := by decide +kernel
theorem dL_law_490 : decode cL_law 490 = .ok (.iadd, 1) := by decide +kernel
theorem dL_law_491 : decode cL_law 491 = .ok (.iaload, 1) := by decide +kernel
theorem dL_law_492 : decode cL_law 492 = .ok (.aload_n 3, 1) := by decide +kernel
theorem dL_law_493 : decode cL_law 493 = .ok (.iload 10, 2) := by decide +kernel
theorem dL_law_495 : decode cL_law 495 = .ok (.iconst 3, 1) := by decide +kernel
theorem dL_law_496 : decode cL_law 496 = .ok (.iadd, 1) := by decide +kernel
theorem dL_law_497 : decode cL_law 497 = .ok (.iaload, 1) := by decide +kernel
theorem dL_law_498 : decode cL_law 498 = .ok (.aload_n 3, 1) := by decide +kernel
theorem dL_law_499 : decode cL_law 499 = .ok (.iload 10, 2) := by decide +kernel
theorem dL_law_501 : decode cL_law 501 = .ok (.iconst 4, 1) := by decide +kernel
theorem dL_law_502 : decode cL_law 502 = .ok (.iadd, 1) := by decide +kernel
theorem dL_law_503 : decode cL_law 503 = .ok (.iaload, 1) := by decide +kernel
theorem dL_law_504 : decode cL_law 504 = .ok (.invokevirtual 89, 3) := by decide +kernel
theorem dL_law_507 : decode cL_law 507 = .ok (.aload_n 1, 1) := by decide +kernel
theorem dL_law_508 : decode cL_law 508 = .ok (.aload_n 3, 1) := by decide +kernel
theorem dL_law_509 : decode cL_law 509 = .ok (.iload 10, 2) := by decide +kernel
theorem dL_law_511 : decode cL_law 511 = .ok (.iconst 5, 1) := by decide +kernel
theorem dL_law_512 : decode cL_law 512 = .ok (.iadd, 1) := by decide +kernel
theorem dL_law_513 : decode cL_law 513 = .ok (.iaload, 1) := by decide +kernel
theorem dL_law_514 : decode cL_law 514 = .ok (.aload_n 3, 1) := by decide +kernel
theorem dL_law_515 : decode cL_law 515 = .ok (.iload 10, 2) := by decide +kernel
theorem dL_law_517 : decode cL_law 517 = .ok (.bipush 6, 2) := by decide +kernel
theorem dL_law_519 : decode cL_law 519 = .ok (.iadd, 1) := by decide +kernel
theorem dL_law_520 : decode cL_law 520 = .ok (.iaload, 1) := by decide +kernel
theorem dL_law_521 : decode cL_law 521 = .ok (.aload_n 3, 1) := by decide +kernel
theorem dL_law_522 : decode cL_law 522 = .ok (.iload 10, 2) := by decide +kernel
theorem dL_law_524 : decode cL_law 524 = .ok (.bipush 7, 2) := by decide +kernel
theorem dL_law_526 : decode cL_law 526 = .ok (.iadd, 1) := by decide +kernel
theorem dL_law_527 : decode cL_law 527 = .ok (.iaload, 1) := by decide +kernel
theorem dL_law_528 : decode cL_law 528 = .ok (.aload_n 3, 1) := by decide +kernel
theorem dL_law_529 : decode cL_law 529 = .ok (.iload 10, 2) := by decide +kernel
theorem dL_law_531 : decode cL_law 531 = .ok (.bipush 8, 2) := by decide +kernel
theorem dL_law_533 : decode cL_law 533 = .ok (.iadd, 1) := by decide +kernel
theorem dL_law_534 : decode cL_law 534 = .ok (.iaload, 1) := by decide +kernel
theorem dL_law_535 : decode cL_law 535 = .ok (.invokevirtual 93, 3) := by decide +kernel
theorem dL_law_538 : decode cL_law 538 = .ok (.iload 5, 2) := by decide +kernel
theorem dL_law_540 : decode cL_law 540 = .ok (.if_icmp .eq 5, 3) := by decide +kernel
theorem dL_law_543 : decode cL_law 543 = .ok (.iconst 0, 1) := by decide +kernel
theorem dL_law_544 : decode cL_law 544 = .ok (.ireturn, 1) := by decide +kernel
theorem dL_law_545 : decode cL_law 545 = .ok (.iinc 5 1, 3) := by decide +kernel
theorem dL_law_548 : decode cL_law 548 = .ok (.goto 56, 3) := by decide +kernel
theorem dL_law_551 : decode cL_law 551 = .ok (.iload 8, 2) := by decide +kernel
theorem dL_law_553 : decode cL_law 553 = .ok (.iconst 4, 1) := by decide +kernel
theorem dL_law_554 : decode cL_law 554 = .ok (.invokestatic 70, 3) := by decide +kernel
theorem dL_law_557 : decode cL_law 557 = .ok (.istore 10, 2) := by decide +kernel
theorem dL_law_559 : decode cL_law 559 = .ok (.iload 8, 2) := by decide +kernel
theorem dL_law_561 : decode cL_law 561 = .ok (.iconst 2, 1) := by decide +kernel
theorem dL_law_562 : decode cL_law 562 = .ok (.ishr, 1) := by decide +kernel
theorem dL_law_563 : decode cL_law 563 = .ok (.bipush 21, 2) := by decide +kernel
theorem dL_law_565 : decode cL_law 565 = .ok (.invokestatic 70, 3) := by decide +kernel
theorem dL_law_568 : decode cL_law 568 = .ok (.bipush 10, 2) := by decide +kernel
theorem dL_law_570 : decode cL_law 570 = .ok (.isub, 1) := by decide +kernel
theorem dL_law_571 : decode cL_law 571 = .ok (.istore 11, 2) := by decide +kernel
theorem dL_law_573 : decode cL_law 573 = .ok (.aload_n 1, 1) := by decide +kernel
theorem dL_law_574 : decode cL_law 574 = .ok (.iload 10, 2) := by decide +kernel
theorem dL_law_576 : decode cL_law 576 = .ok (.iload 11, 2) := by decide +kernel
theorem dL_law_578 : decode cL_law 578 = .ok (.invokevirtual 97, 3) := by decide +kernel
theorem dL_law_581 : decode cL_law 581 = .ok (.aload_n 2, 1) := by decide +kernel
theorem dL_law_582 : decode cL_law 582 = .ok (.iconst 3, 1) := by decide +kernel
theorem dL_law_583 : decode cL_law 583 = .ok (.iload 10, 2) := by decide +kernel
theorem dL_law_585 : decode cL_law 585 = .ok (.imul, 1) := by decide +kernel
theorem dL_law_586 : decode cL_law 586 = .ok (.iconst 2, 1) := by decide +kernel
theorem dL_law_587 : decode cL_law 587 = .ok (.iadd, 1) := by decide +kernel
theorem dL_law_588 : decode cL_law 588 = .ok (.iaload, 1) := by decide +kernel
theorem dL_law_589 : decode cL_law 589 = .ok (.if_icmp .eq 5, 3) := by decide +kernel
theorem dL_law_592 : decode cL_law 592 = .ok (.iconst 0, 1) := by decide +kernel
theorem dL_law_593 : decode cL_law 593 = .ok (.ireturn, 1) := by decide +kernel
theorem dL_law_594 : decode cL_law 594 = .ok (.aload_n 2, 1) := by decide +kernel
theorem dL_law_595 : decode cL_law 595 = .ok (.iconst 3, 1) := by decide +kernel
theorem dL_law_596 : decode cL_law 596 = .ok (.iload 10, 2) := by decide +kernel
theorem dL_law_598 : decode cL_law 598 = .ok (.imul, 1) := by decide +kernel
theorem dL_law_599 : decode cL_law 599 = .ok (.iconst 2, 1) := by decide +kernel
theorem dL_law_600 : decode cL_law 600 = .ok (.iadd, 1) := by decide +kernel
theorem dL_law_601 : decode cL_law 601 = .ok (.iload 11, 2) := by decide +kernel
theorem dL_law_603 : decode cL_law 603 = .ok (.iastore, 1) := by decide +kernel
theorem dL_law_604 : decode cL_law 604 = .ok (.iload 9, 2) := by decide +kernel
theorem dL_law_606 : decode cL_law 606 = .ok (.iconst 3, 1) := by decide +kernel
theorem dL_law_607 : decode cL_law 607 = .ok (.invokestatic 70, 3) := by decide +kernel
theorem dL_law_610 : decode cL_law 610 = .ok (.ifCond .ne 76, 3) := by decide +kernel
theorem dL_law_613 : decode cL_law 613 = .ok (.iload 9, 2) := by decide +kernel
theorem dL_law_615 : decode cL_law 615 = .ok (.iconst 2, 1) := by decide +kernel
theorem dL_law_616 : decode cL_law 616 = .ok (.ishr, 1) := by decide +kernel
theorem dL_law_617 : decode cL_law 617 = .ok (.iconst 2, 1) := by decide +kernel
theorem dL_law_618 : decode cL_law 618 = .ok (.invokestatic 70, 3) := by decide +kernel
theorem dL_law_621 : decode cL_law 621 = .ok (.istore 10, 2) := by decide +kernel
theorem dL_law_623 : decode cL_law 623 = .ok (.aload 4, 2) := by decide +kernel
theorem dL_law_625 : decode cL_law 625 = .ok (.iconst 2, 1) := by decide +kernel
theorem dL_law_626 : decode cL_law 626 = .ok (.iload 10, 2) := by decide +kernel
theorem dL_law_628 : decode cL_law 628 = .ok (.imul, 1) := by decide +kernel
theorem dL_law_629 : decode cL_law 629 = .ok (.iload 9, 2) := by decide +kernel
theorem dL_law_631 : decode cL_law 631 = .ok (.iconst 4, 1) := by decide +kernel
theorem dL_law_632 : decode cL_law 632 = .ok (.ishr, 1) := by decide +kernel
theorem dL_law_633 : decode cL_law 633 = .ok (.bipush 41, 2) := by decide +kernel
theorem dL_law_635 : decode cL_law 635 = .ok (.invokestatic 70, 3) := by decide +kernel
theorem dL_law_638 : decode cL_law 638 = .ok (.bipush 20, 2) := by decide +kernel
theorem dL_law_640 : decode cL_law 640 = .ok (.isub, 1) := by decide +kernel
theorem dL_law_641 : decode cL_law 641 = .ok (.iastore, 1) := by decide +kernel
theorem dL_law_642 : decode cL_law 642 = .ok (.aload 4, 2) := by decide +kernel
theorem dL_law_644 : decode cL_law 644 = .ok (.iconst 2, 1) := by decide +kernel
theorem dL_law_645 : decode cL_law 645 = .ok (.iload 10, 2) := by decide +kernel
theorem dL_law_647 : decode cL_law 647 = .ok (.imul, 1) := by decide +kernel
theorem dL_law_648 : decode cL_law 648 = .ok (.iconst 1, 1) := by decide +kernel
theorem dL_law_649 : decode cL_law 649 = .ok (.iadd, 1) := by decide +kernel
theorem dL_law_650 : decode cL_law 650 = .ok (.iload 9, 2) := by decide +kernel
theorem dL_law_652 : decode cL_law 652 = .ok (.bipush 10, 2) := by decide +kernel
theorem dL_law_654 : decode cL_law 654 = .ok (.ishr, 1) := by decide +kernel
theorem dL_law_655 : decode cL_law 655 = .ok (.bipush 41, 2) := by decide +kernel
theorem dL_law_657 : decode cL_law 657 = .ok (.invokestatic 70, 3) := by decide +kernel
theorem dL_law_660 : decode cL_law 660 = .ok (.bipush 20, 2) := by decide +kernel
theorem dL_law_662 : decode cL_law 662 = .ok (.isub, 1) := by decide +kernel
theorem dL_law_663 : decode cL_law 663 = .ok (.iastore, 1) := by decide +kernel
theorem dL_law_664 : decode cL_law 664 = .ok (.aload_n 1, 1) := by decide +kernel
theorem dL_law_665 : decode cL_law 665 = .ok (.iload 10, 2) := by decide +kernel
theorem dL_law_667 : decode cL_law 667 = .ok (.aload 4, 2) := by decide +kernel
theorem dL_law_669 : decode cL_law 669 = .ok (.iconst 2, 1) := by decide +kernel
theorem dL_law_670 : decode cL_law 670 = .ok (.iload 10, 2) := by decide +kernel
theorem dL_law_672 : decode cL_law 672 = .ok (.imul, 1) := by decide +kernel
theorem dL_law_673 : decode cL_law 673 = .ok (.iaload, 1) := by decide +kernel
theorem dL_law_674 : decode cL_law 674 = .ok (.aload 4, 2) := by decide +kernel
theorem dL_law_676 : decode cL_law 676 = .ok (.iconst 2, 1) := by decide +kernel
theorem dL_law_677 : decode cL_law 677 = .ok (.iload 10, 2) := by decide +kernel
theorem dL_law_679 : decode cL_law 679 = .ok (.imul, 1) := by decide +kernel
theorem dL_law_680 : decode cL_law 680 = .ok (.iconst 1, 1) := by decide +kernel
theorem dL_law_681 : decode cL_law 681 = .ok (.iadd, 1) := by decide +kernel
theorem dL_law_682 : decode cL_law 682 = .ok (.iaload, 1) := by decide +kernel
theorem dL_law_683 : decode cL_law 683 = .ok (.invokevirtual 100, 3) := by decide +kernel
theorem dL_law_686 : decode cL_law 686 = .ok (.aload_n 2, 1) := by decide +kernel
theorem dL_law_687 : decode cL_law 687 = .ok (.aload_n 3, 1) := by decide +kernel
theorem dL_law_688 : decode cL_law 688 = .ok (.iload 5, 2) := by decide +kernel
theorem dL_law_690 : decode cL_law 690 = .ok (.iload 9, 2) := by decide +kernel
theorem dL_law_692 : decode cL_law 692 = .ok (.iconst 3, 1) := by decide +kernel
theorem dL_law_693 : decode cL_law 693 = .ok (.ishr, 1) := by decide +kernel
theorem dL_law_694 : decode cL_law 694 = .ok (.iload 5, 2) := by decide +kernel
theorem dL_law_696 : decode cL_law 696 = .ok (.invokestatic 70, 3) := by decide +kernel
theorem dL_law_699 : decode cL_law 699 = .ok (.invokestatic 26, 3) := by decide +kernel
theorem dL_law_702 : decode cL_law 702 = .ok (.istore 10, 2) := by decide +kernel
theorem dL_law_704 : decode cL_law 704 = .ok (.iload 10, 2) := by decide +kernel
theorem dL_law_706 : decode cL_law 706 = .ok (.ifCond .lt 222, 3) := by decide +kernel
theorem dL_law_709 : decode cL_law 709 = .ok (.aload 4, 2) := by decide +kernel
theorem dL_law_711 : decode cL_law 711 = .ok (.bipush 10, 2) := by decide +kernel
theorem dL_law_713 : decode cL_law 713 = .ok (.iaload, 1) := by decide +kernel
theorem dL_law_714 : decode cL_law 714 = .ok (.bipush 6, 2) := by decide +kernel
theorem dL_law_716 : decode cL_law 716 = .ok (.if_icmp .ge 212, 3) := by decide +kernel
theorem dL_law_719 : decode cL_law 719 = .ok (.bipush 16, 2) := by decide +kernel
theorem dL_law_721 : decode cL_law 721 = .ok (.newarray .long, 2) := by decide +kernel
theorem dL_law_723 : decode cL_law 723 = .ok (.astore 11, 2) := by decide +kernel
theorem dL_law_725 : decode cL_law 725 = .ok (.aload_n 2, 1) := by decide +kernel
theorem dL_law_726 : decode cL_law 726 = .ok (.aload_n 3, 1) := by decide +kernel
theorem dL_law_727 : decode cL_law 727 = .ok (.iload 5, 2) := by decide +kernel
theorem dL_law_729 : decode cL_law 729 = .ok (.iload 10, 2) := by decide +kernel
theorem dL_law_731 : decode cL_law 731 = .ok (.aload 11, 2) := by decide +kernel
theorem dL_law_733 : decode cL_law 733 = .ok (.invokestatic 58, 3) := by decide +kernel
theorem dL_law_736 : decode cL_law 736 = .ok (.aload 11, 2) := by decide +kernel
theorem dL_law_738 : decode cL_law 738 = .ok (.iconst 3, 1) := by decide +kernel
theorem dL_law_739 : decode cL_law 739 = .ok (.laload, 1) := by decide +kernel
theorem dL_law_740 : decode cL_law 740 = .ok (.lconst 0, 1) := by decide +kernel
theorem dL_law_741 : decode cL_law 741 = .ok (.lcmp, 1) := by decide +kernel
theorem dL_law_742 : decode cL_law 742 = .ok (.ifCond .ge 7, 3) := by decide +kernel
theorem dL_law_745 : decode cL_law 745 = .ok (.lconst 0, 1) := by decide +kernel
theorem dL_law_746 : decode cL_law 746 = .ok (.goto 28, 3) := by decide +kernel
theorem dL_law_749 : decode cL_law 749 = .ok (.aload 11, 2) := by decide +kernel
theorem dL_law_751 : decode cL_law 751 = .ok (.iconst 3, 1) := by decide +kernel
theorem dL_law_752 : decode cL_law 752 = .ok (.laload, 1) := by decide +kernel
theorem dL_law_753 : decode cL_law 753 = .ok (.ldc2_w 66, 3) := by decide +kernel
theorem dL_law_756 : decode cL_law 756 = .ok (.lcmp, 1) := by decide +kernel
theorem dL_law_757 : decode cL_law 757 = .ok (.ifCond .le 9, 3) := by decide +kernel
theorem dL_law_760 : decode cL_law 760 = .ok (.ldc2_w 68, 3) := by decide +kernel
theorem dL_law_763 : decode cL_law 763 = .ok (.goto 11, 3) := by decide +kernel
theorem dL_law_766 : decode cL_law 766 = .ok (.aload 11, 2) := by decide +kernel
theorem dL_law_768 : decode cL_law 768 = .ok (.iconst 3, 1) := by decide +kernel
theorem dL_law_769 : decode cL_law 769 = .ok (.laload, 1) := by decide +kernel
theorem dL_law_770 : decode cL_law 770 = .ok (.ldc2_w 10, 3) := by decide +kernel
theorem dL_law_773 : decode cL_law 773 = .ok (.ldiv, 1) := by decide +kernel
theorem dL_law_774 : decode cL_law 774 = .ok (.l2i, 1) := by decide +kernel
theorem dL_law_775 : decode cL_law 775 = .ok (.istore 12, 2) := by decide +kernel
theorem dL_law_777 : decode cL_law 777 = .ok (.aload 11, 2) := by decide +kernel
theorem dL_law_779 : decode cL_law 779 = .ok (.iconst 4, 1) := by decide +kernel
theorem dL_law_780 : decode cL_law 780 = .ok (.laload, 1) := by decide +kernel
theorem dL_law_781 : decode cL_law 781 = .ok (.lconst 0, 1) := by decide +kernel
theorem dL_law_782 : decode cL_law 782 = .ok (.lcmp, 1) := by decide +kernel
theorem dL_law_783 : decode cL_law 783 = .ok (.ifCond .ge 7, 3) := by decide +kernel
theorem dL_law_786 : decode cL_law 786 = .ok (.lconst 0, 1) := by decide +kernel
theorem dL_law_787 : decode cL_law 787 = .ok (.goto 28, 3) := by decide +kernel
theorem dL_law_790 : decode cL_law 790 = .ok (.aload 11, 2) := by decide +kernel
theorem dL_law_792 : decode cL_law 792 = .ok (.iconst 4, 1) := by decide +kernel
theorem dL_law_793 : decode cL_law 793 = .ok (.laload, 1) := by decide +kernel
theorem dL_law_794 : decode cL_law 794 = .ok (.ldc2_w 66, 3) := by decide +kernel
theorem dL_law_797 : decode cL_law 797 = .ok (.lcmp, 1) := by decide +kernel
theorem dL_law_798 : decode cL_law 798 = .ok (.ifCond .le 9, 3) := by decide +kernel
theorem dL_law_801 : decode cL_law 801 = .ok (.ldc2_w 68, 3) := by decide +kernel
theorem dL_law_804 : decode cL_law 804 = .ok (.goto 11, 3) := by decide +kernel
theorem dL_law_807 : decode cL_law 807 = .ok (.aload 11, 2) := by decide +kernel
theorem dL_law_809 : decode cL_law 809 = .ok (.iconst 4, 1) := by decide +kernel
theorem dL_law_810 : decode cL_law 810 = .ok (.laload, 1) := by decide +kernel
theorem dL_law_811 : decode cL_law 811 = .ok (.ldc2_w 10, 3) := by decide +kernel
theorem dL_law_814 : decode cL_law 814 = .ok (.ldiv, 1) := by decide +kernel
theorem dL_law_815 : decode cL_law 815 = .ok (.l2i, 1) := by decide +kernel
theorem dL_law_816 : decode cL_law 816 = .ok (.istore 13, 2) := by decide +kernel
theorem dL_law_818 : decode cL_law 818 = .ok (.bipush 11, 2) := by decide +kernel
theorem dL_law_820 : decode cL_law 820 = .ok (.iconst 4, 1) := by decide +kernel
theorem dL_law_821 : decode cL_law 821 = .ok (.aload 4, 2) := by decide +kernel
theorem dL_law_823 : decode cL_law 823 = .ok (.bipush 10, 2) := by decide +kernel
theorem dL_law_825 : decode cL_law 825 = .ok (.iaload, 1) := by decide +kernel
theorem dL_law_826 : decode cL_law 826 = .ok (.imul, 1) := by decide +kernel
theorem dL_law_827 : decode cL_law 827 = .ok (.iadd, 1) := by decide +kernel
theorem dL_law_828 : decode cL_law 828 = .ok (.istore 14, 2) := by decide +kernel
theorem dL_law_830 : decode cL_law 830 = .ok (.aload 4, 2) := by decide +kernel
theorem dL_law_832 : decode cL_law 832 = .ok (.iload 14, 2) := by decide +kernel
theorem dL_law_834 : decode cL_law 834 = .ok (.iload 10, 2) := by decide +kernel
theorem dL_law_836 : decode cL_law 836 = .ok (.iastore, 1) := by decide +kernel
theorem dL_law_837 : decode cL_law 837 = .ok (.aload 4, 2) := by decide +kernel
theorem dL_law_839 : decode cL_law 839 = .ok (.iload 14, 2) := by decide +kernel
theorem dL_law_841 : decode cL_law 841 = .ok (.iconst 1, 1) := by decide +kernel
theorem dL_law_842 : decode cL_law 842 = .ok (.iadd, 1) := by decide +kernel
theorem dL_law_843 : decode cL_law 843 = .ok (.iload 12, 2) := by decide +kernel
theorem dL_law_845 : decode cL_law 845 = .ok (.iastore, 1) := by decide +kernel
theorem dL_law_846 : decode cL_law 846 = .ok (.aload 4, 2) := by decide +kernel
theorem dL_law_848 : decode cL_law 848 = .ok (.iload 14, 2) := by decide +kernel
theorem dL_law_850 : decode cL_law 850 = .ok (.iconst 2, 1) := by decide +kernel
theorem dL_law_851 : decode cL_law 851 = .ok (.iadd, 1) := by decide +kernel
theorem dL_law_852 : decode cL_law 852 = .ok (.iload 13, 2) := by decide +kernel
theorem dL_law_854 : decode cL_law 854 = .ok (.iastore, 1) := by decide +kernel
theorem dL_law_855 : decode cL_law 855 = .ok (.aload 4, 2) := by decide +kernel
theorem dL_law_857 : decode cL_law 857 = .ok (.iload 14, 2) := by decide +kernel
theorem dL_law_859 : decode cL_law 859 = .ok (.iconst 3, 1) := by decide +kernel
theorem dL_law_860 : decode cL_law 860 = .ok (.iadd, 1) := by decide +kernel
theorem dL_law_861 : decode cL_law 861 = .ok (.iconst 1, 1) := by decide +kernel
theorem dL_law_862 : decode cL_law 862 = .ok (.iload 8, 2) := by decide +kernel
theorem dL_law_864 : decode cL_law 864 = .ok (.bipush 20, 2) := by decide +kernel
theorem dL_law_866 : decode cL_law 866 = .ok (.ishr, 1) := by decide +kernel
theorem dL_law_867 : decode cL_law 867 = .ok (.bipush 100, 2) := by decide +kernel
theorem dL_law_869 : decode cL_law 869 = .ok (.invokestatic 70, 3) := by decide +kernel
theorem dL_law_872 : decode cL_law 872 = .ok (.iadd, 1) := by decide +kernel
theorem dL_law_873 : decode cL_law 873 = .ok (.iastore, 1) := by decide +kernel
theorem dL_law_874 : decode cL_law 874 = .ok (.aload 4, 2) := by decide +kernel
theorem dL_law_876 : decode cL_law 876 = .ok (.bipush 10, 2) := by decide +kernel
theorem dL_law_878 : decode cL_law 878 = .ok (.dup2, 1) := by decide +kernel
theorem dL_law_879 : decode cL_law 879 = .ok (.iaload, 1) := by decide +kernel
theorem dL_law_880 : decode cL_law 880 = .ok (.iconst 1, 1) := by decide +kernel
theorem dL_law_881 : decode cL_law 881 = .ok (.iadd, 1) := by decide +kernel
theorem dL_law_882 : decode cL_law 882 = .ok (.iastore, 1) := by decide +kernel
theorem dL_law_883 : decode cL_law 883 = .ok (.aload_n 1, 1) := by decide +kernel
theorem dL_law_884 : decode cL_law 884 = .ok (.iload 10, 2) := by decide +kernel
theorem dL_law_886 : decode cL_law 886 = .ok (.iload 12, 2) := by decide +kernel
theorem dL_law_888 : decode cL_law 888 = .ok (.iload 13, 2) := by decide +kernel
theorem dL_law_890 : decode cL_law 890 = .ok (.aload 4, 2) := by decide +kernel
theorem dL_law_892 : decode cL_law 892 = .ok (.iload 14, 2) := by decide +kernel
theorem dL_law_894 : decode cL_law 894 = .ok (.iconst 3, 1) := by decide +kernel
theorem dL_law_895 : decode cL_law 895 = .ok (.iadd, 1) := by decide +kernel
theorem dL_law_896 : decode cL_law 896 = .ok (.iaload, 1) := by decide +kernel
theorem dL_law_897 : decode cL_law 897 = .ok (.invokevirtual 104, 3) := by decide +kernel
theorem dL_law_900 : decode cL_law 900 = .ok (.aload 4, 2) := by decide +kernel
theorem dL_law_902 : decode cL_law 902 = .ok (.aload 11, 2) := by decide +kernel
theorem dL_law_904 : decode cL_law 904 = .ok (.aload_n 3, 1) := by decide +kernel
theorem dL_law_905 : decode cL_law 905 = .ok (.bipush 9, 2) := by decide +kernel
theorem dL_law_907 : decode cL_law 907 = .ok (.iload 10, 2) := by decide +kernel
theorem dL_law_909 : decode cL_law 909 = .ok (.imul, 1) := by decide +kernel
theorem dL_law_910 : decode cL_law 910 = .ok (.iconst 1, 1) := by decide +kernel
theorem dL_law_911 : decode cL_law 911 = .ok (.iadd, 1) := by decide +kernel
theorem dL_law_912 : decode cL_law 912 = .ok (.iaload, 1) := by decide +kernel
theorem dL_law_913 : decode cL_law 913 = .ok (.iload 10, 2) := by decide +kernel
theorem dL_law_915 : decode cL_law 915 = .ok (.iload 12, 2) := by decide +kernel
theorem dL_law_917 : decode cL_law 917 = .ok (.iload 13, 2) := by decide +kernel
theorem dL_law_919 : decode cL_law 919 = .ok (.invokestatic 78, 3) := by decide +kernel
theorem dL_law_922 : decode cL_law 922 = .ok (.lcmp, 1) := by decide +kernel
theorem dL_law_923 : decode cL_law 923 = .ok (.ifCond .eq 5, 3) := by decide +kernel
theorem dL_law_926 : decode cL_law 926 = .ok (.iconst 0, 1) := by decide +kernel
theorem dL_law_927 : decode cL_law 927 = .ok (.ireturn, 1) := by decide +kernel
theorem dL_law_928 : decode cL_law 928 = .ok (.iload 7, 2) := by decide +kernel
theorem dL_law_930 : decode cL_law 930 = .ok (.iconst 2, 1) := by decide +kernel
theorem dL_law_931 : decode cL_law 931 = .ok (.irem, 1) := by decide +kernel
theorem dL_law_932 : decode cL_law 932 = .ok (.ifCond .ne 22, 3) := by decide +kernel
theorem dL_law_935 : decode cL_law 935 = .ok (.aload_n 1, 1) := by decide +kernel
theorem dL_law_936 : decode cL_law 936 = .ok (.aload_n 2, 1) := by decide +kernel
theorem dL_law_937 : decode cL_law 937 = .ok (.aload_n 3, 1) := by decide +kernel
theorem dL_law_938 : decode cL_law 938 = .ok (.aload 4, 2) := by decide +kernel
theorem dL_law_940 : decode cL_law 940 = .ok (.iload 5, 2) := by decide +kernel
theorem dL_law_942 : decode cL_law 942 = .ok (.iload 9, 2) := by decide +kernel
theorem dL_law_944 : decode cL_law 944 = .ok (.iconst 5, 1) := by decide +kernel
theorem dL_law_945 : decode cL_law 945 = .ok (.ishr, 1) := by decide +kernel
theorem dL_law_946 : decode cL_law 946 = .ok (.invokestatic 108, 3) := by decide +kernel
theorem dL_law_949 : decode cL_law 949 = .ok (.ifCond .ne 5, 3) := by decide +kernel
theorem dL_law_952 : decode cL_law 952 = .ok (.iconst 0, 1) := by decide +kernel
theorem dL_law_953 : decode cL_law 953 = .ok (.ireturn, 1) := by decide +kernel
theorem dL_law_954 : decode cL_law 954 = .ok (.iinc 7 1, 3) := by decide +kernel
theorem dL_law_957 : decode cL_law 957 = .ok (.goto (-817), 3) := by decide +kernel
theorem dL_law_960 : decode cL_law 960 = .ok (.aload_n 0, 1) := by decide +kernel
theorem dL_law_961 : decode cL_law 961 = .ok (.iload 6, 2) := by decide +kernel
theorem dL_law_963 : decode cL_law 963 = .ok (.invokestatic 81, 3) := by decide +kernel
theorem dL_law_966 : decode cL_law 966 = .ok (.bipush 100, 2) := by decide +kernel
theorem dL_law_968 : decode cL_law 968 = .ok (.invokestatic 70, 3) := by decide +kernel
theorem dL_law_971 : decode cL_law 971 = .ok (.istore 7, 2) := by decide +kernel
theorem dL_law_973 : decode cL_law 973 = .ok (.aload_n 0, 1) := by decide +kernel
theorem dL_law_974 : decode cL_law 974 = .ok (.iload 6, 2) := by decide +kernel
theorem dL_law_976 : decode cL_law 976 = .ok (.iconst 1, 1) := by decide +kernel
theorem dL_law_977 : decode cL_law 977 = .ok (.iadd, 1) := by decide +kernel
theorem dL_law_978 : decode cL_law 978 = .ok (.invokestatic 81, 3) := by decide +kernel
theorem dL_law_981 : decode cL_law 981 = .ok (.bipush 100, 2) := by decide +kernel
theorem dL_law_983 : decode cL_law 983 = .ok (.invokestatic 70, 3) := by decide +kernel
theorem dL_law_986 : decode cL_law 986 = .ok (.istore 8, 2) := by decide +kernel
theorem dL_law_988 : decode cL_law 988 = .ok (.aload_n 0, 1) := by decide +kernel
theorem dL_law_989 : decode cL_law 989 = .ok (.iload 6, 2) := by decide +kernel
theorem dL_law_991 : decode cL_law 991 = .ok (.iconst 2, 1) := by decide +kernel
theorem dL_law_992 : decode cL_law 992 = .ok (.iadd, 1) := by decide +kernel
theorem dL_law_993 : decode cL_law 993 = .ok (.invokestatic 81, 3) := by decide +kernel
theorem dL_law_996 : decode cL_law 996 = .ok (.iconst 2, 1) := by decide +kernel
theorem dL_law_997 : decode cL_law 997 = .ok (.invokestatic 70, 3) := by decide +kernel
theorem dL_law_1000 : decode cL_law 1000 = .ok (.istore 9, 2) := by decide +kernel
theorem dL_law_1002 : decode cL_law 1002 = .ok (.iconst (-1), 1) := by decide +kernel
theorem dL_law_1003 : decode cL_law 1003 = .ok (.istore 10, 2) := by decide +kernel
theorem dL_law_1005 : decode cL_law 1005 = .ok (.lconst 0, 1) := by decide +kernel
theorem dL_law_1006 : decode cL_law 1006 = .ok (.lstore 11, 2) := by decide +kernel
theorem dL_law_1008 : decode cL_law 1008 = .ok (.bipush 16, 2) := by decide +kernel
theorem dL_law_1010 : decode cL_law 1010 = .ok (.newarray .long, 2) := by decide +kernel
theorem dL_law_1012 : decode cL_law 1012 = .ok (.astore 13, 2) := by decide +kernel
theorem dL_law_1014 : decode cL_law 1014 = .ok (.iconst 0, 1) := by decide +kernel
theorem dL_law_1015 : decode cL_law 1015 = .ok (.istore 14, 2) := by decide +kernel
theorem dL_law_1017 : decode cL_law 1017 = .ok (.iload 14, 2) := by decide +kernel
theorem dL_law_1019 : decode cL_law 1019 = .ok (.iload 5, 2) := by decide +kernel
theorem dL_law_1021 : decode cL_law 1021 = .ok (.if_icmp .ge 91, 3) := by decide +kernel
theorem dL_law_1024 : decode cL_law 1024 = .ok (.aload_n 2, 1) := by decide +kernel
theorem dL_law_1025 : decode cL_law 1025 = .ok (.aload_n 3, 1) := by decide +kernel
theorem dL_law_1026 : decode cL_law 1026 = .ok (.iload 5, 2) := by decide +kernel
theorem dL_law_1028 : decode cL_law 1028 = .ok (.iload 14, 2) := by decide +kernel
theorem dL_law_1030 : decode cL_law 1030 = .ok (.invokestatic 26, 3) := by decide +kernel
theorem dL_law_1033 : decode cL_law 1033 = .ok (.iload 14, 2) := by decide +kernel
theorem dL_law_1035 : decode cL_law 1035 = .ok (.if_icmp .ne 71, 3) := by decide +kernel
theorem dL_law_1038 : decode cL_law 1038 = .ok (.aload_n 3, 1) := by decide +kernel
theorem dL_law_1039 : decode cL_law 1039 = .ok (.bipush 9, 2) := by decide +kernel
theorem dL_law_1041 : decode cL_law 1041 = .ok (.iload 14, 2) := by decide +kernel
theorem dL_law_1043 : decode cL_law 1043 = .ok (.imul, 1) := by decide +kernel
theorem dL_law_1044 : decode cL_law 1044 = .ok (.iconst 1, 1) := by decide +kernel
theorem dL_law_1045 : decode cL_law 1045 = .ok (.iadd, 1) := by decide +kernel
theorem dL_law_1046 : decode cL_law 1046 = .ok (.iaload, 1) := by decide +kernel
theorem dL_law_1047 : decode cL_law 1047 = .ok (.iload 9, 2) := by decide +kernel
theorem dL_law_1049 : decode cL_law 1049 = .ok (.if_icmp .le 6, 3) := by decide +kernel
theorem dL_law_1052 : decode cL_law 1052 = .ok (.goto 54, 3) := by decide +kernel
theorem dL_law_1055 : decode cL_law 1055 = .ok (.aload_n 2, 1) := by decide +kernel
theorem dL_law_1056 : decode cL_law 1056 = .ok (.aload_n 3, 1) := by decide +kernel
theorem dL_law_1057 : decode cL_law 1057 = .ok (.iload 5, 2) := by decide +kernel
theorem dL_law_1059 : decode cL_law 1059 = .ok (.iload 14, 2) := by decide +kernel
theorem dL_law_1061 : decode cL_law 1061 = .ok (.aload 13, 2) := by decide +kernel
theorem dL_law_1063 : decode cL_law 1063 = .ok (.invokestatic 58, 3) := by decide +kernel
theorem dL_law_1066 : decode cL_law 1066 = .ok (.aload 4, 2) := by decide +kernel
theorem dL_law_1068 : decode cL_law 1068 = .ok (.aload 13, 2) := by decide +kernel
theorem dL_law_1070 : decode cL_law 1070 = .ok (.aload_n 3, 1) := by decide +kernel
theorem dL_law_1071 : decode cL_law 1071 = .ok (.bipush 9, 2) := by decide +kernel
theorem dL_law_1073 : decode cL_law 1073 = .ok (.iload 14, 2) := by decide +kernel
theorem dL_law_1075 : decode cL_law 1075 = .ok (.imul, 1) := by decide +kernel
theorem dL_law_1076 : decode cL_law 1076 = .ok (.iconst 1, 1) := by decide +kernel
theorem dL_law_1077 : decode cL_law 1077 = .ok (.iadd, 1) := by decide +kernel
theorem dL_law_1078 : decode cL_law 1078 = .ok (.iaload, 1) := by decide +kernel
theorem dL_law_1079 : decode cL_law 1079 = .ok (.iload 14, 2) := by decide +kernel
theorem dL_law_1081 : decode cL_law 1081 = .ok (.iload 7, 2) := by decide +kernel
theorem dL_law_1083 : decode cL_law 1083 = .ok (.iload 8, 2) := by decide +kernel
theorem dL_law_1085 : decode cL_law 1085 = .ok (.invokestatic 78, 3) := by decide +kernel
theorem dL_law_1088 : decode cL_law 1088 = .ok (.lstore 15, 2) := by decide +kernel
theorem dL_law_1090 : decode cL_law 1090 = .ok (.lload 15, 2) := by decide +kernel
theorem dL_law_1092 : decode cL_law 1092 = .ok (.lload 11, 2) := by decide +kernel
theorem dL_law_1094 : decode cL_law 1094 = .ok (.lcmp, 1) := by decide +kernel
theorem dL_law_1095 : decode cL_law 1095 = .ok (.ifCond .le 11, 3) := by decide +kernel
theorem dL_law_1098 : decode cL_law 1098 = .ok (.lload 15, 2) := by decide +kernel
theorem dL_law_1100 : decode cL_law 1100 = .ok (.lstore 11, 2) := by decide +kernel
theorem dL_law_1102 : decode cL_law 1102 = .ok (.iload 14, 2) := by decide +kernel
theorem dL_law_1104 : decode cL_law 1104 = .ok (.istore 10, 2) := by decide +kernel
theorem dL_law_1106 : decode cL_law 1106 = .ok (.iinc 14 1, 3) := by decide +kernel
theorem dL_law_1109 : decode cL_law 1109 = .ok (.goto (-92), 3) := by decide +kernel
theorem dL_law_1112 : decode cL_law 1112 = .ok (.aload_n 1, 1) := by decide +kernel
theorem dL_law_1113 : decode cL_law 1113 = .ok (.iload 7, 2) := by decide +kernel
theorem dL_law_1115 : decode cL_law 1115 = .ok (.iload 8, 2) := by decide +kernel
theorem dL_law_1117 : decode cL_law 1117 = .ok (.iload 9, 2) := by decide +kernel
theorem dL_law_1119 : decode cL_law 1119 = .ok (.bipush 100, 2) := by decide +kernel
theorem dL_law_1121 : decode cL_law 1121 = .ok (.iconst 1, 1) := by decide +kernel
theorem dL_law_1122 : decode cL_law 1122 = .ok (.invokevirtual 112, 3) := by decide +kernel
theorem dL_law_1125 : decode cL_law 1125 = .ok (.ifCond .ne 17, 3) := by decide +kernel
theorem dL_law_1128 : decode cL_law 1128 = .ok (.aload_n 1, 1) := by decide +kernel
theorem dL_law_1129 : decode cL_law 1129 = .ok (.iconst 0, 1) := by decide +kernel
theorem dL_law_1130 : decode cL_law 1130 = .ok (.invokevirtual 116, 3) := by decide +kernel
theorem dL_law_1133 : decode cL_law 1133 = .ok (.iload 10, 2) := by decide +kernel
theorem dL_law_1135 : decode cL_law 1135 = .ok (.if_icmp .ne 7, 3) := by decide +kernel
theorem dL_law_1138 : decode cL_law 1138 = .ok (.iconst 1, 1) := by decide +kernel
theorem dL_law_1139 : decode cL_law 1139 = .ok (.goto 4, 3) := by decide +kernel
theorem dL_law_1142 : decode cL_law 1142 = .ok (.iconst 0, 1) := by decide +kernel
theorem dL_law_1143 : decode cL_law 1143 = .ok (.ireturn, 1) := by decide +kernel
end
section
def TB : List Cond := lw_tbl.filter goodWord
theorem tb_in {w : Cond} (i : Nat) (h : lw_tbl[i]? = some w) (hg : goodWord w = true) : w ∈ TB := List.mem_filter.mpr ⟨List.mem_of_getElem? h, hg⟩
theorem tb_ok {w : Cond} (h : w ∈ TB) : w ∈ TB ∧ ((w.onTables && w.keeps) = true ∨ ∃ ty, w = .arrayClass ty) := ⟨h, good_of_word (List.mem_filter.mp h).2⟩
theorem tb_self : GoodIn TB TB := fun _ h => tb_ok h
theorem tb_cons {w : Cond} {ws : List Cond} (h : w ∈ TB) (hs : GoodIn TB ws) : GoodIn TB (w :: ws) := fun x hx => (List.mem_cons.mp hx).elim (fun e => by rw [e]; exact tb_ok h) (hs x)
theorem q_0 : Cond.selects RJx4a65c yJx4a65c_add_72be8 yJx4a65c_add_72be8 ∈ TB := tb_in 0 (by decide +kernel) (by decide +kernel)
theorem q_1 : Cond.selects RJx4a65c yJx4a65c_grow_d5877 yJx4a65c_grow_d5877 ∈ TB := tb_in 1 (by decide +kernel) (by decide +kernel)
theorem q_2 : Cond.selects RJx4a65c yJx4a65c_grow_92f84 yJx4a65c_grow_92f84 ∈ TB := tb_in 2 (by decide +kernel) (by decide +kernel)
theorem q_3 : Cond.selects "java/lang/Throwable" ⟨"java/lang/Throwable", "fillInStackTrace", "(I)Ljava/lang/Throwable;"⟩ ⟨"java/lang/Throwable", "fillInStackTrace", "(I)Ljava/lang/Throwable;"⟩ ∈ TB := tb_in 3 (by decide +kernel) (by decide +kernel)
theorem q_4 : Cond.selects RX10 yX10_existingCamera yX10_existingCamera ∈ TB := tb_in 4 (by decide +kernel) (by decide +kernel)
theorem q_5 : Cond.selects RX10 yX10_gatherFireballs yX10_gatherFireballs ∈ TB := tb_in 5 (by decide +kernel) (by decide +kernel)
theorem q_6 : Cond.selects RX10 yX10_joinSightings yX10_joinSightings ∈ TB := tb_in 6 (by decide +kernel) (by decide +kernel)
theorem q_7 : Cond.selects RX10 yX10_doJoin yX10_doJoin ∈ TB := tb_in 7 (by decide +kernel) (by decide +kernel)
theorem q_8 : Cond.selects RX10 yX10_gatherInto yX10_gatherInto ∈ TB := tb_in 8 (by decide +kernel) (by decide +kernel)
theorem q_9 : Cond.selects RX10 yX10_groupOf yX10_groupOf ∈ TB := tb_in 9 (by decide +kernel) (by decide +kernel)
theorem q_10 : Cond.selects RX10 yX10_addPlaces yX10_addPlaces ∈ TB := tb_in 10 (by decide +kernel) (by decide +kernel)
theorem q_11 : Cond.selects RX10 yX10_isCloudy yX10_isCloudy ∈ TB := tb_in 11 (by decide +kernel) (by decide +kernel)
theorem q_12 : Cond.selects RX10 yX10_cloudyNights yX10_cloudyNights ∈ TB := tb_in 12 (by decide +kernel) (by decide +kernel)
theorem q_13 : Cond.selects RX10 yX10_windOf yX10_windOf ∈ TB := tb_in 13 (by decide +kernel) (by decide +kernel)
theorem q_14 : Cond.selects RX10 yX10_existingFireball yX10_existingFireball ∈ TB := tb_in 14 (by decide +kernel) (by decide +kernel)
theorem q_15 : Cond.selects RX10 yX10_wasWalked yX10_wasWalked ∈ TB := tb_in 15 (by decide +kernel) (by decide +kernel)
theorem q_16 : Cond.selects RX10 yX10_chanceIn yX10_chanceIn ∈ TB := tb_in 16 (by decide +kernel) (by decide +kernel)
theorem q_17 : Cond.selects RX10 yX10_weightLeft yX10_weightLeft ∈ TB := tb_in 17 (by decide +kernel) (by decide +kernel)
theorem q_18 : Cond.selects RX10 yX10_weightOfGround yX10_weightOfGround ∈ TB := tb_in 18 (by decide +kernel) (by decide +kernel)
theorem q_19 : Cond.selects RX10 yX10_lawIn yX10_lawIn ∈ TB := tb_in 19 (by decide +kernel) (by decide +kernel)
theorem q_20 : Cond.selects RX10 yX10_existingStone yX10_existingStone ∈ TB := tb_in 20 (by decide +kernel) (by decide +kernel)
theorem q_21 : Cond.selects RX10 yX10_fallOf yX10_fallOf ∈ TB := tb_in 21 (by decide +kernel) (by decide +kernel)
theorem q_22 : Cond.selects RX10 yX10_existingSighting yX10_existingSighting ∈ TB := tb_in 22 (by decide +kernel) (by decide +kernel)
theorem q_23 : Cond.selects RX10 yX10_spreadLowest yX10_spreadLowest ∈ TB := tb_in 23 (by decide +kernel) (by decide +kernel)
theorem q_24 : Cond.selects RX10 yX10_countFireballs yX10_countFireballs ∈ TB := tb_in 24 (by decide +kernel) (by decide +kernel)
theorem q_25 : Cond.initialized RL ∈ TB := tb_in 25 (by decide +kernel) (by decide +kernel)
theorem q_26 : Cond.initialized RX10 ∈ TB := tb_in 26 (by decide +kernel) (by decide +kernel)
theorem q_27 : Cond.initialized RJxa1e45 ∈ TB := tb_in 27 (by decide +kernel) (by decide +kernel)
theorem q_28 : Cond.initialized RJxc12de ∈ TB := tb_in 28 (by decide +kernel) (by decide +kernel)
theorem q_29 : Cond.initialized RJx4a65c ∈ TB := tb_in 29 (by decide +kernel) (by decide +kernel)
theorem q_30 : Cond.initialized RX2 ∈ TB := tb_in 30 (by decide +kernel) (by decide +kernel)
theorem q_31 : Cond.initialized RX3 ∈ TB := tb_in 31 (by decide +kernel) (by decide +kernel)
theorem q_32 : Cond.initialized RX4 ∈ TB := tb_in 32 (by decide +kernel) (by decide +kernel)
theorem q_33 : Cond.initialized RJ8 ∈ TB := tb_in 33 (by decide +kernel) (by decide +kernel)
theorem q_34 : Cond.initialized RJ9 ∈ TB := tb_in 34 (by decide +kernel) (by decide +kernel)
theorem q_35 : Cond.initialized RJ7 ∈ TB := tb_in 35 (by decide +kernel) (by decide +kernel)
theorem q_36 : Cond.initialized RJ10 ∈ TB := tb_in 36 (by decide +kernel) (by decide +kernel)
theorem q_37 : Cond.initialized "java/lang/Throwable" ∈ TB := tb_in 37 (by decide +kernel) (by decide +kernel)
theorem q_38 : Cond.initialized "java/lang/Exception" ∈ TB := tb_in 38 (by decide +kernel) (by decide +kernel)
theorem q_39 : Cond.initialized "java/lang/RuntimeException" ∈ TB := tb_in 39 (by decide +kernel) (by decide +kernel)
theorem q_40 : Cond.initialized "java/lang/IllegalArgumentException" ∈ TB := tb_in 40 (by decide +kernel) (by decide +kernel)
theorem q_41 : Cond.initialized "java/lang/IllegalStateException" ∈ TB := tb_in 41 (by decide +kernel) (by decide +kernel)
theorem q_42 : Cond.initialized RX0 ∈ TB := tb_in 42 (by decide +kernel) (by decide +kernel)
theorem q_43 : Cond.initialized "java/lang/IndexOutOfBoundsException" ∈ TB := tb_in 43 (by decide +kernel) (by decide +kernel)
theorem q_44 : Cond.initialized RJ15 ∈ TB := tb_in 44 (by decide +kernel) (by decide +kernel)
theorem q_45 : Cond.initialized RJ3 ∈ TB := tb_in 45 (by decide +kernel) (by decide +kernel)
theorem q_46 : Cond.initialized RX6 ∈ TB := tb_in 46 (by decide +kernel) (by decide +kernel)
theorem q_47 : Cond.initialized RX9 ∈ TB := tb_in 47 (by decide +kernel) (by decide +kernel)
theorem q_48 : Cond.initialized RX8 ∈ TB := tb_in 48 (by decide +kernel) (by decide +kernel)
theorem q_49 : Cond.initialized RX7 ∈ TB := tb_in 49 (by decide +kernel) (by decide +kernel)
theorem q_50 : Cond.classLink RL 47 RX10 ∈ TB := tb_in 50 (by decide +kernel) (by decide +kernel)
theorem q_51 : Cond.instantiable RX10 14 ∈ TB := tb_in 51 (by decide +kernel) (by decide +kernel)
theorem q_52 : Cond.methodLink RL 80 yX10_init ∈ TB := tb_in 52 (by decide +kernel) (by decide +kernel)
theorem q_53 : Cond.instanceMethod yX10_init ∈ TB := tb_in 53 (by decide +kernel) (by decide +kernel)
theorem q_54 : Cond.code yX10_init cX10_init 2 none ∈ TB := tb_in 54 (by decide +kernel) (by decide +kernel)
theorem q_55 : Cond.methodLink RX10 1 objectInit ∈ TB := tb_in 55 (by decide +kernel) (by decide +kernel)
theorem q_56 : Cond.instanceMethod objectInit ∈ TB := tb_in 56 (by decide +kernel) (by decide +kernel)
theorem q_57 : Cond.code objectInit object_method_1_code 1 none ∈ TB := tb_in 57 (by decide +kernel) (by decide +kernel)
theorem q_58 : Cond.classLink RX10 7 RJx4a65c ∈ TB := tb_in 58 (by decide +kernel) (by decide +kernel)
theorem q_59 : Cond.instantiable RJx4a65c 3 ∈ TB := tb_in 59 (by decide +kernel) (by decide +kernel)
theorem q_60 : Cond.methodLink RX10 9 yJx4a65c_init_da8c8 ∈ TB := tb_in 60 (by decide +kernel) (by decide +kernel)
theorem q_61 : Cond.instanceMethod yJx4a65c_init_da8c8 ∈ TB := tb_in 61 (by decide +kernel) (by decide +kernel)
theorem q_62 : Cond.code yJx4a65c_init_da8c8 cJx4a65c_init_da8c8 1 none ∈ TB := tb_in 62 (by decide +kernel) (by decide +kernel)
theorem q_63 : Cond.methodLink RJx4a65c 1 yJxc12de_init_da8c8 ∈ TB := tb_in 63 (by decide +kernel) (by decide +kernel)
theorem q_64 : Cond.instanceMethod yJxc12de_init_da8c8 ∈ TB := tb_in 64 (by decide +kernel) (by decide +kernel)
theorem q_65 : Cond.code yJxc12de_init_da8c8 cJxc12de_init_da8c8 1 none ∈ TB := tb_in 65 (by decide +kernel) (by decide +kernel)
theorem q_66 : Cond.methodLink RJxc12de 1 yJxa1e45_init_da8c8 ∈ TB := tb_in 66 (by decide +kernel) (by decide +kernel)
theorem q_67 : Cond.instanceMethod yJxa1e45_init_da8c8 ∈ TB := tb_in 67 (by decide +kernel) (by decide +kernel)
theorem q_68 : Cond.code yJxa1e45_init_da8c8 cJxa1e45_init_da8c8 1 none ∈ TB := tb_in 68 (by decide +kernel) (by decide +kernel)
theorem q_69 : Cond.methodLink RJxa1e45 1 objectInit ∈ TB := tb_in 69 (by decide +kernel) (by decide +kernel)
theorem q_70 : Cond.fieldLink RJx4a65c 39 "java/util/ArrayList" "DEFAULTCAPACITY_EMPTY_ELEMENTDATA" "[Ljava/lang/Object;" ∈ TB := tb_in 70 (by decide +kernel) (by decide +kernel)
theorem q_72 : Cond.fieldLink RJx4a65c 9 "java/util/ArrayList" "elementData" "[Ljava/lang/Object;" ∈ TB := tb_in 72 (by decide +kernel) (by decide +kernel)
theorem q_73 : Cond.fieldLink RJx4a65c 48 "java/util/ArrayList" "size" "I" ∈ TB := tb_in 73 (by decide +kernel) (by decide +kernel)
theorem q_74 : Cond.fieldLink RJxc12de 7 "java/util/AbstractList" "modCount" "I" ∈ TB := tb_in 74 (by decide +kernel) (by decide +kernel)
theorem q_75 : Cond.fieldLink RJx4a65c 63 "java/util/ArrayList" "modCount" "I" ∈ TB := tb_in 75 (by decide +kernel) (by decide +kernel)
theorem q_76 : Cond.sameField "java/util/ArrayList" "java/util/AbstractList" "modCount" "I" ∈ TB := tb_in 76 (by decide +kernel) (by decide +kernel)
theorem q_77 : Cond.lays RJx4a65c "java/util/ArrayList" "elementData" "[Ljava/lang/Object;" ∈ TB := tb_in 77 (by decide +kernel) (by decide +kernel)
theorem q_79 : Cond.lays RJx4a65c "java/util/ArrayList" "size" "I" ∈ TB := tb_in 79 (by decide +kernel) (by decide +kernel)
theorem q_81 : Cond.lays RJx4a65c "java/util/AbstractList" "modCount" "I" ∈ TB := tb_in 81 (by decide +kernel) (by decide +kernel)
theorem q_84 : Cond.classLink RX10 29 RX2 ∈ TB := tb_in 84 (by decide +kernel) (by decide +kernel)
theorem q_85 : Cond.instantiable RX2 2 ∈ TB := tb_in 85 (by decide +kernel) (by decide +kernel)
theorem q_87 : Cond.instanceMethod yX2_init ∈ TB := tb_in 87 (by decide +kernel) (by decide +kernel)
theorem q_88 : Cond.code yX2_init cX2_init 1 none ∈ TB := tb_in 88 (by decide +kernel) (by decide +kernel)
theorem q_89 : Cond.methodLink RX2 1 objectInit ∈ TB := tb_in 89 (by decide +kernel) (by decide +kernel)
theorem q_90 : Cond.fieldLink RX2 48 "FireNet$Crossing" "x" "J" ∈ TB := tb_in 90 (by decide +kernel) (by decide +kernel)
theorem q_91 : Cond.fieldLink RX4 56 "FireNet$Crossing" "x" "J" ∈ TB := tb_in 91 (by decide +kernel) (by decide +kernel)
theorem q_92 : Cond.fieldLink RX2 51 "FireNet$Crossing" "y" "J" ∈ TB := tb_in 92 (by decide +kernel) (by decide +kernel)
theorem q_93 : Cond.fieldLink RX4 61 "FireNet$Crossing" "y" "J" ∈ TB := tb_in 93 (by decide +kernel) (by decide +kernel)
theorem q_94 : Cond.lays RX2 "FireNet$Crossing" "x" "J" ∈ TB := tb_in 94 (by decide +kernel) (by decide +kernel)
theorem q_96 : Cond.lays RX2 "FireNet$Crossing" "y" "J" ∈ TB := tb_in 96 (by decide +kernel) (by decide +kernel)
theorem q_99 : Cond.classLink RX10 45 RX3 ∈ TB := tb_in 99 (by decide +kernel) (by decide +kernel)
theorem q_100 : Cond.instantiable RX3 4 ∈ TB := tb_in 100 (by decide +kernel) (by decide +kernel)
theorem q_102 : Cond.instanceMethod yX3_init ∈ TB := tb_in 102 (by decide +kernel) (by decide +kernel)
theorem q_103 : Cond.code yX3_init cX3_init 1 none ∈ TB := tb_in 103 (by decide +kernel) (by decide +kernel)
theorem q_104 : Cond.methodLink RX3 3 objectInit ∈ TB := tb_in 104 (by decide +kernel) (by decide +kernel)
theorem q_105 : Cond.fieldLink RX3 15 "FireNet$Field" "endX" "J" ∈ TB := tb_in 105 (by decide +kernel) (by decide +kernel)
theorem q_106 : Cond.fieldLink RX3 21 "FireNet$Field" "endY" "J" ∈ TB := tb_in 106 (by decide +kernel) (by decide +kernel)
theorem q_107 : Cond.fieldLink RX3 22 "FireNet$Field" "windX" "I" ∈ TB := tb_in 107 (by decide +kernel) (by decide +kernel)
theorem q_108 : Cond.fieldLink RX3 26 "FireNet$Field" "windY" "I" ∈ TB := tb_in 108 (by decide +kernel) (by decide +kernel)
theorem q_109 : Cond.lays RX3 "FireNet$Field" "endX" "J" ∈ TB := tb_in 109 (by decide +kernel) (by decide +kernel)
theorem q_111 : Cond.lays RX3 "FireNet$Field" "endY" "J" ∈ TB := tb_in 111 (by decide +kernel) (by decide +kernel)
theorem q_113 : Cond.lays RX3 "FireNet$Field" "windX" "I" ∈ TB := tb_in 113 (by decide +kernel) (by decide +kernel)
theorem q_115 : Cond.lays RX3 "FireNet$Field" "windY" "I" ∈ TB := tb_in 115 (by decide +kernel) (by decide +kernel)
theorem q_118 : Cond.classLink RX10 55 RX5 ∈ TB := tb_in 118 (by decide +kernel) (by decide +kernel)
theorem q_120 : Cond.classLink RX10 68 RX4 ∈ TB := tb_in 120 (by decide +kernel) (by decide +kernel)
theorem q_121 : Cond.instantiable RX4 13 ∈ TB := tb_in 121 (by decide +kernel) (by decide +kernel)
theorem q_123 : Cond.instanceMethod yX4_init ∈ TB := tb_in 123 (by decide +kernel) (by decide +kernel)
theorem q_124 : Cond.code yX4_init cX4_init 1 none ∈ TB := tb_in 124 (by decide +kernel) (by decide +kernel)
theorem q_125 : Cond.methodLink RX4 1 objectInit ∈ TB := tb_in 125 (by decide +kernel) (by decide +kernel)
theorem q_126 : Cond.fieldLink RX4 43 "FireNet$Fireball" "night" "I" ∈ TB := tb_in 126 (by decide +kernel) (by decide +kernel)
theorem q_127 : Cond.fieldLink RX10 419 "FireNet$Fireball" "night" "I" ∈ TB := tb_in 127 (by decide +kernel) (by decide +kernel)
theorem q_128 : Cond.fieldLink RX4 7 "FireNet$Fireball" "sightings" "I" ∈ TB := tb_in 128 (by decide +kernel) (by decide +kernel)
theorem q_129 : Cond.fieldLink RX4 13 "FireNet$Fireball" "pairs" "I" ∈ TB := tb_in 129 (by decide +kernel) (by decide +kernel)
theorem q_130 : Cond.fieldLink RX4 16 "FireNet$Fireball" "lengths" "J" ∈ TB := tb_in 130 (by decide +kernel) (by decide +kernel)
theorem q_131 : Cond.fieldLink RX4 20 "FireNet$Fireball" "lightTimesLength" "J" ∈ TB := tb_in 131 (by decide +kernel) (by decide +kernel)
theorem q_132 : Cond.fieldLink RX4 23 "FireNet$Fireball" "greatestLight" "J" ∈ TB := tb_in 132 (by decide +kernel) (by decide +kernel)
theorem q_133 : Cond.fieldLink RX4 26 "FireNet$Fireball" "beginX" "J" ∈ TB := tb_in 133 (by decide +kernel) (by decide +kernel)
theorem q_134 : Cond.fieldLink RX4 29 "FireNet$Fireball" "beginY" "J" ∈ TB := tb_in 134 (by decide +kernel) (by decide +kernel)
theorem q_135 : Cond.fieldLink RX3 9 "FireNet$Fireball" "endX" "J" ∈ TB := tb_in 135 (by decide +kernel) (by decide +kernel)
theorem q_136 : Cond.fieldLink RX4 32 "FireNet$Fireball" "endX" "J" ∈ TB := tb_in 136 (by decide +kernel) (by decide +kernel)
theorem q_137 : Cond.fieldLink RX3 18 "FireNet$Fireball" "endY" "J" ∈ TB := tb_in 137 (by decide +kernel) (by decide +kernel)
theorem q_138 : Cond.fieldLink RX4 35 "FireNet$Fireball" "endY" "J" ∈ TB := tb_in 138 (by decide +kernel) (by decide +kernel)
theorem q_139 : Cond.fieldLink RX4 82 "FireNet$Fireball" "speed" "J" ∈ TB := tb_in 139 (by decide +kernel) (by decide +kernel)
theorem q_140 : Cond.fieldLink RX4 85 "FireNet$Fireball" "massByLight" "J" ∈ TB := tb_in 140 (by decide +kernel) (by decide +kernel)
theorem q_141 : Cond.fieldLink RX10 420 "FireNet$Fireball" "massByLight" "J" ∈ TB := tb_in 141 (by decide +kernel) (by decide +kernel)
theorem q_142 : Cond.fieldLink RX4 90 "FireNet$Fireball" "massBySpeed" "J" ∈ TB := tb_in 142 (by decide +kernel) (by decide +kernel)
theorem q_143 : Cond.lays RX4 "FireNet$Fireball" "night" "I" ∈ TB := tb_in 143 (by decide +kernel) (by decide +kernel)
theorem q_145 : Cond.lays RX4 "FireNet$Fireball" "sightings" "I" ∈ TB := tb_in 145 (by decide +kernel) (by decide +kernel)
theorem q_147 : Cond.lays RX4 "FireNet$Fireball" "pairs" "I" ∈ TB := tb_in 147 (by decide +kernel) (by decide +kernel)
theorem q_149 : Cond.lays RX4 "FireNet$Fireball" "lengths" "J" ∈ TB := tb_in 149 (by decide +kernel) (by decide +kernel)
theorem q_151 : Cond.lays RX4 "FireNet$Fireball" "lightTimesLength" "J" ∈ TB := tb_in 151 (by decide +kernel) (by decide +kernel)
theorem q_153 : Cond.lays RX4 "FireNet$Fireball" "greatestLight" "J" ∈ TB := tb_in 153 (by decide +kernel) (by decide +kernel)
theorem q_155 : Cond.lays RX4 "FireNet$Fireball" "beginX" "J" ∈ TB := tb_in 155 (by decide +kernel) (by decide +kernel)
theorem q_157 : Cond.lays RX4 "FireNet$Fireball" "beginY" "J" ∈ TB := tb_in 157 (by decide +kernel) (by decide +kernel)
theorem q_159 : Cond.lays RX4 "FireNet$Fireball" "endX" "J" ∈ TB := tb_in 159 (by decide +kernel) (by decide +kernel)
theorem q_161 : Cond.lays RX4 "FireNet$Fireball" "endY" "J" ∈ TB := tb_in 161 (by decide +kernel) (by decide +kernel)
theorem q_163 : Cond.lays RX4 "FireNet$Fireball" "speed" "J" ∈ TB := tb_in 163 (by decide +kernel) (by decide +kernel)
theorem q_165 : Cond.lays RX4 "FireNet$Fireball" "massByLight" "J" ∈ TB := tb_in 165 (by decide +kernel) (by decide +kernel)
theorem q_167 : Cond.lays RX4 "FireNet$Fireball" "massBySpeed" "J" ∈ TB := tb_in 167 (by decide +kernel) (by decide +kernel)
theorem q_170 : Cond.arrayClass .int ∈ TB := tb_in 170 (by decide +kernel) (by decide +kernel)
theorem q_172 : Cond.methodLink RX10 71 ⟨RJxbd725, "add", "(Ljava/lang/Object;)Z"⟩ ∈ TB := tb_in 172 (by decide +kernel) (by decide +kernel)
theorem q_176 : Cond.selects RJx4a65c ⟨RJxbd725, "add", "(Ljava/lang/Object;)Z"⟩ yJx4a65c_add_9ea2d ∈ TB := tb_in 176 (by decide +kernel) (by decide +kernel)
theorem q_178 : Cond.instanceMethod yJx4a65c_add_9ea2d ∈ TB := tb_in 178 (by decide +kernel) (by decide +kernel)
theorem q_180 : Cond.code yJx4a65c_add_9ea2d cJx4a65c_add_9ea2d 2 (some .boolean) ∈ TB := tb_in 180 (by decide +kernel) (by decide +kernel)
theorem q_181 : Cond.methodLink RJx4a65c 131 yJx4a65c_add_72be8 ∈ TB := tb_in 181 (by decide +kernel) (by decide +kernel)
theorem q_183 : Cond.instanceMethod yJx4a65c_add_72be8 ∈ TB := tb_in 183 (by decide +kernel) (by decide +kernel)
theorem q_184 : Cond.code yJx4a65c_add_72be8 cJx4a65c_add_72be8 4 none ∈ TB := tb_in 184 (by decide +kernel) (by decide +kernel)
theorem q_185 : Cond.methodLink RJx4a65c 129 yJx4a65c_grow_d5877 ∈ TB := tb_in 185 (by decide +kernel) (by decide +kernel)
theorem q_187 : Cond.instanceMethod yJx4a65c_grow_d5877 ∈ TB := tb_in 187 (by decide +kernel) (by decide +kernel)
theorem q_188 : Cond.code yJx4a65c_grow_d5877 cJx4a65c_grow_d5877 1 (some (.array (.object "java/lang/Object"))) ∈ TB := tb_in 188 (by decide +kernel) (by decide +kernel)
theorem q_189 : Cond.methodLink RJx4a65c 69 yJx4a65c_grow_92f84 ∈ TB := tb_in 189 (by decide +kernel) (by decide +kernel)
theorem q_191 : Cond.instanceMethod yJx4a65c_grow_92f84 ∈ TB := tb_in 191 (by decide +kernel) (by decide +kernel)
theorem q_192 : Cond.code yJx4a65c_grow_92f84 cJx4a65c_grow_92f84 4 (some (.array (.object "java/lang/Object"))) ∈ TB := tb_in 192 (by decide +kernel) (by decide +kernel)
theorem q_193 : Cond.methodLink RJx4a65c 73 yJ8_newLength_cabcc ∈ TB := tb_in 193 (by decide +kernel) (by decide +kernel)
theorem q_194 : Cond.static yJ8_newLength_cabcc ∈ TB := tb_in 194 (by decide +kernel) (by decide +kernel)
theorem q_195 : Cond.code yJ8_newLength_cabcc cJ8_newLength_cabcc 4 (some .int) ∈ TB := tb_in 195 (by decide +kernel) (by decide +kernel)
theorem q_196 : Cond.methodLink RJ8 194 yJ9_max_7cf53 ∈ TB := tb_in 196 (by decide +kernel) (by decide +kernel)
theorem q_197 : Cond.static yJ9_max_7cf53 ∈ TB := tb_in 197 (by decide +kernel) (by decide +kernel)
theorem q_198 : Cond.code yJ9_max_7cf53 cJ9_max_7cf53 2 (some .int) ∈ TB := tb_in 198 (by decide +kernel) (by decide +kernel)
theorem q_199 : Cond.constant RJ8 200 (2147483639 : Int32) ∈ TB := tb_in 199 (by decide +kernel) (by decide +kernel)
theorem q_200 : Cond.methodLink RJ8 201 yJ8_hugeLength_7cf53 ∈ TB := tb_in 200 (by decide +kernel) (by decide +kernel)
theorem q_201 : Cond.static yJ8_hugeLength_7cf53 ∈ TB := tb_in 201 (by decide +kernel) (by decide +kernel)
theorem q_202 : Cond.code yJ8_hugeLength_7cf53 cJ8_hugeLength_7cf53 3 (some .int) ∈ TB := tb_in 202 (by decide +kernel) (by decide +kernel)
theorem q_203 : Cond.methodLink RJx4a65c 66 yJ7_copyOf_1904c ∈ TB := tb_in 203 (by decide +kernel) (by decide +kernel)
theorem q_204 : Cond.static yJ7_copyOf_1904c ∈ TB := tb_in 204 (by decide +kernel) (by decide +kernel)
theorem q_205 : Cond.code yJ7_copyOf_1904c cJ7_copyOf_1904c 2 (some (.array (.object "java/lang/Object"))) ∈ TB := tb_in 205 (by decide +kernel) (by decide +kernel)
theorem q_206 : Cond.methodLink RJ7 86 ⟨"java/lang/Object", "getClass", "()Ljava/lang/Class;"⟩ ∈ TB := tb_in 206 (by decide +kernel) (by decide +kernel)
theorem q_207 : Cond.instanceMethod ⟨"java/lang/Object", "getClass", "()Ljava/lang/Class;"⟩ ∈ TB := tb_in 207 (by decide +kernel) (by decide +kernel)
theorem q_208 : Cond.sameMethod "java/lang/Object" "java/lang/Object" "getClass" "()Ljava/lang/Class;" ∈ TB := tb_in 208 (by decide +kernel) (by decide +kernel)
theorem q_209 : Cond.selects RX10 ⟨"java/lang/Object", "getClass", "()Ljava/lang/Class;"⟩ ⟨"java/lang/Object", "getClass", "()Ljava/lang/Class;"⟩ ∈ TB := tb_in 209 (by decide +kernel) (by decide +kernel)
theorem q_210 : Cond.selects RX0 ⟨"java/lang/Object", "getClass", "()Ljava/lang/Class;"⟩ ⟨"java/lang/Object", "getClass", "()Ljava/lang/Class;"⟩ ∈ TB := tb_in 210 (by decide +kernel) (by decide +kernel)
theorem q_211 : Cond.selects RX2 ⟨"java/lang/Object", "getClass", "()Ljava/lang/Class;"⟩ ⟨"java/lang/Object", "getClass", "()Ljava/lang/Class;"⟩ ∈ TB := tb_in 211 (by decide +kernel) (by decide +kernel)
theorem q_212 : Cond.selects RX3 ⟨"java/lang/Object", "getClass", "()Ljava/lang/Class;"⟩ ⟨"java/lang/Object", "getClass", "()Ljava/lang/Class;"⟩ ∈ TB := tb_in 212 (by decide +kernel) (by decide +kernel)
theorem q_213 : Cond.selects RX4 ⟨"java/lang/Object", "getClass", "()Ljava/lang/Class;"⟩ ⟨"java/lang/Object", "getClass", "()Ljava/lang/Class;"⟩ ∈ TB := tb_in 213 (by decide +kernel) (by decide +kernel)
theorem q_214 : Cond.selects RX6 ⟨"java/lang/Object", "getClass", "()Ljava/lang/Class;"⟩ ⟨"java/lang/Object", "getClass", "()Ljava/lang/Class;"⟩ ∈ TB := tb_in 214 (by decide +kernel) (by decide +kernel)
theorem q_215 : Cond.selects RX7 ⟨"java/lang/Object", "getClass", "()Ljava/lang/Class;"⟩ ⟨"java/lang/Object", "getClass", "()Ljava/lang/Class;"⟩ ∈ TB := tb_in 215 (by decide +kernel) (by decide +kernel)
theorem q_216 : Cond.selects RX8 ⟨"java/lang/Object", "getClass", "()Ljava/lang/Class;"⟩ ⟨"java/lang/Object", "getClass", "()Ljava/lang/Class;"⟩ ∈ TB := tb_in 216 (by decide +kernel) (by decide +kernel)
theorem q_217 : Cond.selects RX9 ⟨"java/lang/Object", "getClass", "()Ljava/lang/Class;"⟩ ⟨"java/lang/Object", "getClass", "()Ljava/lang/Class;"⟩ ∈ TB := tb_in 217 (by decide +kernel) (by decide +kernel)
theorem q_218 : Cond.selects "java/lang/IllegalArgumentException" ⟨"java/lang/Object", "getClass", "()Ljava/lang/Class;"⟩ ⟨"java/lang/Object", "getClass", "()Ljava/lang/Class;"⟩ ∈ TB := tb_in 218 (by decide +kernel) (by decide +kernel)
theorem q_219 : Cond.selects "java/lang/IllegalStateException" ⟨"java/lang/Object", "getClass", "()Ljava/lang/Class;"⟩ ⟨"java/lang/Object", "getClass", "()Ljava/lang/Class;"⟩ ∈ TB := tb_in 219 (by decide +kernel) (by decide +kernel)
theorem q_220 : Cond.selects "java/lang/IndexOutOfBoundsException" ⟨"java/lang/Object", "getClass", "()Ljava/lang/Class;"⟩ ⟨"java/lang/Object", "getClass", "()Ljava/lang/Class;"⟩ ∈ TB := tb_in 220 (by decide +kernel) (by decide +kernel)
theorem q_221 : Cond.selects RJx4a65c ⟨"java/lang/Object", "getClass", "()Ljava/lang/Class;"⟩ ⟨"java/lang/Object", "getClass", "()Ljava/lang/Class;"⟩ ∈ TB := tb_in 221 (by decide +kernel) (by decide +kernel)
theorem q_223 : Cond.methodLink RJ7 300 yJ7_copyOf_6403c ∈ TB := tb_in 223 (by decide +kernel) (by decide +kernel)
theorem q_224 : Cond.static yJ7_copyOf_6403c ∈ TB := tb_in 224 (by decide +kernel) (by decide +kernel)
theorem q_225 : Cond.code yJ7_copyOf_6403c cJ7_copyOf_6403c 4 (some (.array (.object "java/lang/Object"))) ∈ TB := tb_in 225 (by decide +kernel) (by decide +kernel)
theorem q_226 : Cond.classLink RJ7 110 "[Ljava/lang/Object;" ∈ TB := tb_in 226 (by decide +kernel) (by decide +kernel)
theorem q_228 : Cond.classLink RJ7 2 "java/lang/Object" ∈ TB := tb_in 228 (by decide +kernel) (by decide +kernel)
theorem q_229 : Cond.methodLink RJ7 304 yJ9_min_7cf53 ∈ TB := tb_in 229 (by decide +kernel) (by decide +kernel)
theorem q_230 : Cond.static yJ9_min_7cf53 ∈ TB := tb_in 230 (by decide +kernel) (by decide +kernel)
theorem q_231 : Cond.code yJ9_min_7cf53 cJ9_min_7cf53 2 (some .int) ∈ TB := tb_in 231 (by decide +kernel) (by decide +kernel)
theorem q_232 : Cond.methodLink RJ7 150 ⟨RJ10, "arraycopy", "(Ljava/lang/Object;ILjava/lang/Object;II)V"⟩ ∈ TB := tb_in 232 (by decide +kernel) (by decide +kernel)
theorem q_233 : Cond.static ⟨RJ10, "arraycopy", "(Ljava/lang/Object;ILjava/lang/Object;II)V"⟩ ∈ TB := tb_in 233 (by decide +kernel) (by decide +kernel)
theorem q_235 : Cond.methodLink RJx4a65c 79 yJ9_max_7cf53 ∈ TB := tb_in 235 (by decide +kernel) (by decide +kernel)
theorem q_236 : Cond.classLink RJx4a65c 7 "java/lang/Object" ∈ TB := tb_in 236 (by decide +kernel) (by decide +kernel)
theorem q_237 : Cond.fieldLink RX10 10 "FireNet" "cameras" "Ljava/util/List;" ∈ TB := tb_in 237 (by decide +kernel) (by decide +kernel)
theorem q_238 : Cond.fieldLink RX10 16 "FireNet" "clouds" "Ljava/util/List;" ∈ TB := tb_in 238 (by decide +kernel) (by decide +kernel)
theorem q_239 : Cond.fieldLink RX10 19 "FireNet" "sightings" "Ljava/util/List;" ∈ TB := tb_in 239 (by decide +kernel) (by decide +kernel)
theorem q_240 : Cond.fieldLink RX10 22 "FireNet" "begun" "LFireNet$Sighting;" ∈ TB := tb_in 240 (by decide +kernel) (by decide +kernel)
theorem q_241 : Cond.fieldLink RX10 26 "FireNet" "rows" "Ljava/util/List;" ∈ TB := tb_in 241 (by decide +kernel) (by decide +kernel)
theorem q_242 : Cond.fieldLink RX10 32 "FireNet" "begins" "LFireNet$Crossing;" ∈ TB := tb_in 242 (by decide +kernel) (by decide +kernel)
theorem q_243 : Cond.fieldLink RX10 36 "FireNet" "ends" "LFireNet$Crossing;" ∈ TB := tb_in 243 (by decide +kernel) (by decide +kernel)
theorem q_244 : Cond.fieldLink RX10 39 "FireNet" "winds" "Ljava/util/List;" ∈ TB := tb_in 244 (by decide +kernel) (by decide +kernel)
theorem q_245 : Cond.fieldLink RX10 42 "FireNet" "walks" "Ljava/util/List;" ∈ TB := tb_in 245 (by decide +kernel) (by decide +kernel)
theorem q_246 : Cond.fieldLink RX10 48 "FireNet" "field" "LFireNet$Field;" ∈ TB := tb_in 246 (by decide +kernel) (by decide +kernel)
theorem q_247 : Cond.fieldLink RX10 52 "FireNet" "stones" "Ljava/util/List;" ∈ TB := tb_in 247 (by decide +kernel) (by decide +kernel)
theorem q_248 : Cond.fieldLink RX10 57 "FireNet" "rules" "[LFireNet$Rule;" ∈ TB := tb_in 248 (by decide +kernel) (by decide +kernel)
theorem q_249 : Cond.fieldLink RX10 61 "FireNet" "laws" "[I" ∈ TB := tb_in 249 (by decide +kernel) (by decide +kernel)
theorem q_250 : Cond.fieldLink RX10 65 "FireNet" "namesOfPlaces" "[I" ∈ TB := tb_in 250 (by decide +kernel) (by decide +kernel)
theorem q_251 : Cond.laysFinal RX10 "FireNet" "cameras" "Ljava/util/List;" ∈ TB := tb_in 251 (by decide +kernel) (by decide +kernel)
theorem q_253 : Cond.laysFinal RX10 "FireNet" "clouds" "Ljava/util/List;" ∈ TB := tb_in 253 (by decide +kernel) (by decide +kernel)
theorem q_255 : Cond.laysFinal RX10 "FireNet" "sightings" "Ljava/util/List;" ∈ TB := tb_in 255 (by decide +kernel) (by decide +kernel)
theorem q_257 : Cond.lays RX10 "FireNet" "begun" "LFireNet$Sighting;" ∈ TB := tb_in 257 (by decide +kernel) (by decide +kernel)
theorem q_259 : Cond.laysFinal RX10 "FireNet" "rows" "Ljava/util/List;" ∈ TB := tb_in 259 (by decide +kernel) (by decide +kernel)
theorem q_261 : Cond.laysFinal RX10 "FireNet" "begins" "LFireNet$Crossing;" ∈ TB := tb_in 261 (by decide +kernel) (by decide +kernel)
theorem q_263 : Cond.laysFinal RX10 "FireNet" "ends" "LFireNet$Crossing;" ∈ TB := tb_in 263 (by decide +kernel) (by decide +kernel)
theorem q_265 : Cond.laysFinal RX10 "FireNet" "winds" "Ljava/util/List;" ∈ TB := tb_in 265 (by decide +kernel) (by decide +kernel)
theorem q_267 : Cond.laysFinal RX10 "FireNet" "walks" "Ljava/util/List;" ∈ TB := tb_in 267 (by decide +kernel) (by decide +kernel)
theorem q_269 : Cond.laysFinal RX10 "FireNet" "field" "LFireNet$Field;" ∈ TB := tb_in 269 (by decide +kernel) (by decide +kernel)
theorem q_271 : Cond.laysFinal RX10 "FireNet" "stones" "Ljava/util/List;" ∈ TB := tb_in 271 (by decide +kernel) (by decide +kernel)
theorem q_273 : Cond.laysFinal RX10 "FireNet" "rules" "[LFireNet$Rule;" ∈ TB := tb_in 273 (by decide +kernel) (by decide +kernel)
theorem q_275 : Cond.laysFinal RX10 "FireNet" "laws" "[I" ∈ TB := tb_in 275 (by decide +kernel) (by decide +kernel)
theorem q_277 : Cond.laysFinal RX10 "FireNet" "namesOfPlaces" "[I" ∈ TB := tb_in 277 (by decide +kernel) (by decide +kernel)
theorem q_280 : Cond.methodLink RL 85 yX10_camera ∈ TB := tb_in 280 (by decide +kernel) (by decide +kernel)
theorem q_281 : Cond.instanceMethod yX10_camera ∈ TB := tb_in 281 (by decide +kernel) (by decide +kernel)
theorem q_282 : Cond.selects RX10 yX10_camera yX10_camera ∈ TB := tb_in 282 (by decide +kernel) (by decide +kernel)
theorem q_283 : Cond.code yX10_camera cX10_camera 4 (some .int) ∈ TB := tb_in 283 (by decide +kernel) (by decide +kernel)
theorem q_284 : Cond.methodLink RX10 77 yX10_requireCell ∈ TB := tb_in 284 (by decide +kernel) (by decide +kernel)
theorem q_285 : Cond.static yX10_requireCell ∈ TB := tb_in 285 (by decide +kernel) (by decide +kernel)
theorem q_286 : Cond.code yX10_requireCell cX10_requireCell 2 none ∈ TB := tb_in 286 (by decide +kernel) (by decide +kernel)
theorem q_287 : Cond.methodLink RX10 81 yX10_requireRange ∈ TB := tb_in 287 (by decide +kernel) (by decide +kernel)
theorem q_288 : Cond.static yX10_requireRange ∈ TB := tb_in 288 (by decide +kernel) (by decide +kernel)
theorem q_289 : Cond.code yX10_requireRange cX10_requireRange 3 none ∈ TB := tb_in 289 (by decide +kernel) (by decide +kernel)
theorem q_290 : Cond.classLink RX10 287 "java/lang/IllegalArgumentException" ∈ TB := tb_in 290 (by decide +kernel) (by decide +kernel)
theorem q_291 : Cond.instantiable "java/lang/IllegalArgumentException" 6 ∈ TB := tb_in 291 (by decide +kernel) (by decide +kernel)
theorem q_299 : Cond.selects "java/lang/IllegalArgumentException" ⟨"java/lang/Throwable", "fillInStackTrace", "(I)Ljava/lang/Throwable;"⟩ ⟨"java/lang/Throwable", "fillInStackTrace", "(I)Ljava/lang/Throwable;"⟩ ∈ TB := tb_in 299 (by decide +kernel) (by decide +kernel)
theorem q_300 : Cond.selects "java/lang/IllegalArgumentException" ⟨"java/lang/Throwable", "fillInStackTrace", "()Ljava/lang/Throwable;"⟩ ⟨"java/lang/Throwable", "fillInStackTrace", "()Ljava/lang/Throwable;"⟩ ∈ TB := tb_in 300 (by decide +kernel) (by decide +kernel)
theorem q_301 : Cond.lays "java/lang/IllegalArgumentException" "java/lang/Throwable" "cause" "Ljava/lang/Throwable;" ∈ TB := tb_in 301 (by decide +kernel) (by decide +kernel)
theorem q_302 : Cond.lays "java/lang/Throwable" "java/lang/Throwable" "cause" "Ljava/lang/Throwable;" ∈ TB := tb_in 302 (by decide +kernel) (by decide +kernel)
theorem q_303 : Cond.lays "java/lang/IllegalArgumentException" "java/lang/Throwable" "stackTrace" "[Ljava/lang/StackTraceElement;" ∈ TB := tb_in 303 (by decide +kernel) (by decide +kernel)
theorem q_304 : Cond.lays "java/lang/Throwable" "java/lang/Throwable" "stackTrace" "[Ljava/lang/StackTraceElement;" ∈ TB := tb_in 304 (by decide +kernel) (by decide +kernel)
theorem q_305 : Cond.lays "java/lang/IllegalArgumentException" "java/lang/Throwable" "suppressedExceptions" "Ljava/util/List;" ∈ TB := tb_in 305 (by decide +kernel) (by decide +kernel)
theorem q_306 : Cond.lays "java/lang/Throwable" "java/lang/Throwable" "suppressedExceptions" "Ljava/util/List;" ∈ TB := tb_in 306 (by decide +kernel) (by decide +kernel)
theorem q_307 : Cond.lays "java/lang/IllegalArgumentException" "java/lang/Throwable" "detailMessage" "Ljava/lang/String;" ∈ TB := tb_in 307 (by decide +kernel) (by decide +kernel)
theorem q_308 : Cond.lays "java/lang/Throwable" "java/lang/Throwable" "detailMessage" "Ljava/lang/String;" ∈ TB := tb_in 308 (by decide +kernel) (by decide +kernel)
theorem q_309 : Cond.lays "java/lang/IllegalArgumentException" "java/lang/Throwable" "backtrace" "Ljava/lang/Object;" ∈ TB := tb_in 309 (by decide +kernel) (by decide +kernel)
theorem q_310 : Cond.lays "java/lang/Throwable" "java/lang/Throwable" "backtrace" "Ljava/lang/Object;" ∈ TB := tb_in 310 (by decide +kernel) (by decide +kernel)
theorem q_311 : Cond.fieldLink "java/lang/Throwable" 198 "java/lang/Throwable" "backtrace" "Ljava/lang/Object;" ∈ TB := tb_in 311 (by decide +kernel) (by decide +kernel)
theorem q_313 : Cond.instanceMethod ⟨"java/lang/Throwable", "<init>", "()V"⟩ ∈ TB := tb_in 313 (by decide +kernel) (by decide +kernel)
theorem q_314 : Cond.code ⟨"java/lang/Throwable", "<init>", "()V"⟩ prog_25_method_1_code 1 none ∈ TB := tb_in 314 (by decide +kernel) (by decide +kernel)
theorem q_315 : Cond.methodLink "java/lang/Throwable" 1 objectInit ∈ TB := tb_in 315 (by decide +kernel) (by decide +kernel)
theorem q_316 : Cond.fieldLink "java/lang/Throwable" 13 "java/lang/Throwable" "UNASSIGNED_STACK" "[Ljava/lang/StackTraceElement;" ∈ TB := tb_in 316 (by decide +kernel) (by decide +kernel)
theorem q_318 : Cond.fieldLink "java/lang/Throwable" 20 "java/lang/Throwable" "SUPPRESSED_SENTINEL" "Ljava/util/List;" ∈ TB := tb_in 318 (by decide +kernel) (by decide +kernel)
theorem q_320 : Cond.methodLink "java/lang/Throwable" 27 ⟨"java/lang/Throwable", "fillInStackTrace", "()Ljava/lang/Throwable;"⟩ ∈ TB := tb_in 320 (by decide +kernel) (by decide +kernel)
theorem q_321 : Cond.instanceMethod ⟨"java/lang/Throwable", "fillInStackTrace", "()Ljava/lang/Throwable;"⟩ ∈ TB := tb_in 321 (by decide +kernel) (by decide +kernel)
theorem q_322 : Cond.sameMethod "java/lang/Throwable" "java/lang/Throwable" "fillInStackTrace" "()Ljava/lang/Throwable;" ∈ TB := tb_in 322 (by decide +kernel) (by decide +kernel)
theorem q_323 : Cond.selects "java/lang/IllegalStateException" ⟨"java/lang/Throwable", "fillInStackTrace", "()Ljava/lang/Throwable;"⟩ ⟨"java/lang/Throwable", "fillInStackTrace", "()Ljava/lang/Throwable;"⟩ ∈ TB := tb_in 323 (by decide +kernel) (by decide +kernel)
theorem q_324 : Cond.selects "java/lang/IndexOutOfBoundsException" ⟨"java/lang/Throwable", "fillInStackTrace", "()Ljava/lang/Throwable;"⟩ ⟨"java/lang/Throwable", "fillInStackTrace", "()Ljava/lang/Throwable;"⟩ ∈ TB := tb_in 324 (by decide +kernel) (by decide +kernel)
theorem q_326 : Cond.methodLink "java/lang/Throwable" 202 ⟨"java/lang/Throwable", "fillInStackTrace", "(I)Ljava/lang/Throwable;"⟩ ∈ TB := tb_in 326 (by decide +kernel) (by decide +kernel)
theorem q_328 : Cond.instanceMethod ⟨"java/lang/Throwable", "fillInStackTrace", "(I)Ljava/lang/Throwable;"⟩ ∈ TB := tb_in 328 (by decide +kernel) (by decide +kernel)
theorem q_329 : Cond.instantiable "java/lang/Throwable" 6 ∈ TB := tb_in 329 (by decide +kernel) (by decide +kernel)
theorem q_332 : Cond.methodLink RX10 291 ⟨"java/lang/IllegalArgumentException", "<init>", "(Ljava/lang/String;)V"⟩ ∈ TB := tb_in 332 (by decide +kernel) (by decide +kernel)
theorem q_333 : Cond.instanceMethod ⟨"java/lang/IllegalArgumentException", "<init>", "(Ljava/lang/String;)V"⟩ ∈ TB := tb_in 333 (by decide +kernel) (by decide +kernel)
theorem q_334 : Cond.code ⟨"java/lang/IllegalArgumentException", "<init>", "(Ljava/lang/String;)V"⟩ prog_17_method_2_code 2 none ∈ TB := tb_in 334 (by decide +kernel) (by decide +kernel)
theorem q_335 : Cond.methodLink "java/lang/IllegalArgumentException" 7 ⟨"java/lang/RuntimeException", "<init>", "(Ljava/lang/String;)V"⟩ ∈ TB := tb_in 335 (by decide +kernel) (by decide +kernel)
theorem q_336 : Cond.instanceMethod ⟨"java/lang/RuntimeException", "<init>", "(Ljava/lang/String;)V"⟩ ∈ TB := tb_in 336 (by decide +kernel) (by decide +kernel)
theorem q_337 : Cond.code ⟨"java/lang/RuntimeException", "<init>", "(Ljava/lang/String;)V"⟩ prog_22_method_2_code 2 none ∈ TB := tb_in 337 (by decide +kernel) (by decide +kernel)
theorem q_338 : Cond.methodLink "java/lang/RuntimeException" 7 ⟨"java/lang/Exception", "<init>", "(Ljava/lang/String;)V"⟩ ∈ TB := tb_in 338 (by decide +kernel) (by decide +kernel)
theorem q_339 : Cond.instanceMethod ⟨"java/lang/Exception", "<init>", "(Ljava/lang/String;)V"⟩ ∈ TB := tb_in 339 (by decide +kernel) (by decide +kernel)
theorem q_340 : Cond.code ⟨"java/lang/Exception", "<init>", "(Ljava/lang/String;)V"⟩ prog_16_method_2_code 2 none ∈ TB := tb_in 340 (by decide +kernel) (by decide +kernel)
theorem q_341 : Cond.methodLink "java/lang/Exception" 7 ⟨"java/lang/Throwable", "<init>", "(Ljava/lang/String;)V"⟩ ∈ TB := tb_in 341 (by decide +kernel) (by decide +kernel)
theorem q_342 : Cond.instanceMethod ⟨"java/lang/Throwable", "<init>", "(Ljava/lang/String;)V"⟩ ∈ TB := tb_in 342 (by decide +kernel) (by decide +kernel)
theorem q_343 : Cond.code ⟨"java/lang/Throwable", "<init>", "(Ljava/lang/String;)V"⟩ prog_25_method_2_code 2 none ∈ TB := tb_in 343 (by decide +kernel) (by decide +kernel)
theorem q_345 : Cond.fieldLink "java/lang/Throwable" 31 "java/lang/Throwable" "detailMessage" "Ljava/lang/String;" ∈ TB := tb_in 345 (by decide +kernel) (by decide +kernel)
theorem q_346 : Cond.fieldLink "java/lang/Throwable" 7 "java/lang/Throwable" "cause" "Ljava/lang/Throwable;" ∈ TB := tb_in 346 (by decide +kernel) (by decide +kernel)
theorem q_347 : Cond.fieldLink "java/lang/Throwable" 17 "java/lang/Throwable" "stackTrace" "[Ljava/lang/StackTraceElement;" ∈ TB := tb_in 347 (by decide +kernel) (by decide +kernel)
theorem q_348 : Cond.fieldLink "java/lang/Throwable" 24 "java/lang/Throwable" "suppressedExceptions" "Ljava/util/List;" ∈ TB := tb_in 348 (by decide +kernel) (by decide +kernel)
theorem q_353 : Cond.lays "java/lang/IllegalArgumentException" "java/lang/Throwable" "depth" "I" ∈ TB := tb_in 353 (by decide +kernel) (by decide +kernel)
theorem q_357 : Cond.arrayClass .byte ∈ TB := tb_in 357 (by decide +kernel) (by decide +kernel)
theorem q_359 : Cond.methodLink RX10 85 ⟨RJxbd725, "size", "()I"⟩ ∈ TB := tb_in 359 (by decide +kernel) (by decide +kernel)
theorem q_362 : Cond.selects RJx4a65c ⟨RJxbd725, "size", "()I"⟩ yJx4a65c_size_8abf5 ∈ TB := tb_in 362 (by decide +kernel) (by decide +kernel)
theorem q_364 : Cond.instanceMethod yJx4a65c_size_8abf5 ∈ TB := tb_in 364 (by decide +kernel) (by decide +kernel)
theorem q_366 : Cond.code yJx4a65c_size_8abf5 cJx4a65c_size_8abf5 1 (some .int) ∈ TB := tb_in 366 (by decide +kernel) (by decide +kernel)
theorem q_367 : Cond.classLink RX10 89 "java/lang/IllegalStateException" ∈ TB := tb_in 367 (by decide +kernel) (by decide +kernel)
theorem q_368 : Cond.instantiable "java/lang/IllegalStateException" 6 ∈ TB := tb_in 368 (by decide +kernel) (by decide +kernel)
theorem q_370 : Cond.selects "java/lang/IllegalStateException" ⟨"java/lang/Throwable", "fillInStackTrace", "(I)Ljava/lang/Throwable;"⟩ ⟨"java/lang/Throwable", "fillInStackTrace", "(I)Ljava/lang/Throwable;"⟩ ∈ TB := tb_in 370 (by decide +kernel) (by decide +kernel)
theorem q_371 : Cond.lays "java/lang/IllegalStateException" "java/lang/Throwable" "cause" "Ljava/lang/Throwable;" ∈ TB := tb_in 371 (by decide +kernel) (by decide +kernel)
theorem q_372 : Cond.lays "java/lang/IllegalStateException" "java/lang/Throwable" "stackTrace" "[Ljava/lang/StackTraceElement;" ∈ TB := tb_in 372 (by decide +kernel) (by decide +kernel)
theorem q_373 : Cond.lays "java/lang/IllegalStateException" "java/lang/Throwable" "suppressedExceptions" "Ljava/util/List;" ∈ TB := tb_in 373 (by decide +kernel) (by decide +kernel)
theorem q_374 : Cond.lays "java/lang/IllegalStateException" "java/lang/Throwable" "detailMessage" "Ljava/lang/String;" ∈ TB := tb_in 374 (by decide +kernel) (by decide +kernel)
theorem q_375 : Cond.lays "java/lang/IllegalStateException" "java/lang/Throwable" "backtrace" "Ljava/lang/Object;" ∈ TB := tb_in 375 (by decide +kernel) (by decide +kernel)
theorem q_377 : Cond.methodLink RX10 93 ⟨"java/lang/IllegalStateException", "<init>", "(Ljava/lang/String;)V"⟩ ∈ TB := tb_in 377 (by decide +kernel) (by decide +kernel)
theorem q_378 : Cond.instanceMethod ⟨"java/lang/IllegalStateException", "<init>", "(Ljava/lang/String;)V"⟩ ∈ TB := tb_in 378 (by decide +kernel) (by decide +kernel)
theorem q_379 : Cond.code ⟨"java/lang/IllegalStateException", "<init>", "(Ljava/lang/String;)V"⟩ prog_18_method_2_code 2 none ∈ TB := tb_in 379 (by decide +kernel) (by decide +kernel)
theorem q_380 : Cond.methodLink "java/lang/IllegalStateException" 7 ⟨"java/lang/RuntimeException", "<init>", "(Ljava/lang/String;)V"⟩ ∈ TB := tb_in 380 (by decide +kernel) (by decide +kernel)
theorem q_381 : Cond.lays "java/lang/IllegalStateException" "java/lang/Throwable" "depth" "I" ∈ TB := tb_in 381 (by decide +kernel) (by decide +kernel)
theorem q_383 : Cond.classLink RX10 96 RX0 ∈ TB := tb_in 383 (by decide +kernel) (by decide +kernel)
theorem q_384 : Cond.instantiable RX0 3 ∈ TB := tb_in 384 (by decide +kernel) (by decide +kernel)
theorem q_385 : Cond.methodLink RX10 98 yX0_init ∈ TB := tb_in 385 (by decide +kernel) (by decide +kernel)
theorem q_386 : Cond.instanceMethod yX0_init ∈ TB := tb_in 386 (by decide +kernel) (by decide +kernel)
theorem q_387 : Cond.code yX0_init cX0_init 4 none ∈ TB := tb_in 387 (by decide +kernel) (by decide +kernel)
theorem q_388 : Cond.methodLink RX0 1 objectInit ∈ TB := tb_in 388 (by decide +kernel) (by decide +kernel)
theorem q_389 : Cond.fieldLink RX0 7 "FireNet$Camera" "x" "I" ∈ TB := tb_in 389 (by decide +kernel) (by decide +kernel)
theorem q_390 : Cond.fieldLink RX2 32 "FireNet$Camera" "x" "I" ∈ TB := tb_in 390 (by decide +kernel) (by decide +kernel)
theorem q_391 : Cond.fieldLink RX0 13 "FireNet$Camera" "y" "I" ∈ TB := tb_in 391 (by decide +kernel) (by decide +kernel)
theorem q_392 : Cond.fieldLink RX2 37 "FireNet$Camera" "y" "I" ∈ TB := tb_in 392 (by decide +kernel) (by decide +kernel)
theorem q_393 : Cond.fieldLink RX0 16 "FireNet$Camera" "wrong" "I" ∈ TB := tb_in 393 (by decide +kernel) (by decide +kernel)
theorem q_394 : Cond.fieldLink RX6 31 "FireNet$Camera" "wrong" "I" ∈ TB := tb_in 394 (by decide +kernel) (by decide +kernel)
theorem q_395 : Cond.fieldLink RX10 104 "FireNet$Camera" "wrong" "I" ∈ TB := tb_in 395 (by decide +kernel) (by decide +kernel)
theorem q_396 : Cond.laysFinal RX0 "FireNet$Camera" "x" "I" ∈ TB := tb_in 396 (by decide +kernel) (by decide +kernel)
theorem q_398 : Cond.laysFinal RX0 "FireNet$Camera" "y" "I" ∈ TB := tb_in 398 (by decide +kernel) (by decide +kernel)
theorem q_400 : Cond.lays RX0 "FireNet$Camera" "wrong" "I" ∈ TB := tb_in 400 (by decide +kernel) (by decide +kernel)
theorem q_403 : Cond.methodLink RL 97 yX10_clock ∈ TB := tb_in 403 (by decide +kernel) (by decide +kernel)
theorem q_404 : Cond.instanceMethod yX10_clock ∈ TB := tb_in 404 (by decide +kernel) (by decide +kernel)
theorem q_405 : Cond.selects RX10 yX10_clock yX10_clock ∈ TB := tb_in 405 (by decide +kernel) (by decide +kernel)
theorem q_406 : Cond.code yX10_clock cX10_clock 5 (some .int) ∈ TB := tb_in 406 (by decide +kernel) (by decide +kernel)
theorem q_407 : Cond.methodLink RX10 100 yX10_existingCamera ∈ TB := tb_in 407 (by decide +kernel) (by decide +kernel)
theorem q_409 : Cond.instanceMethod yX10_existingCamera ∈ TB := tb_in 409 (by decide +kernel) (by decide +kernel)
theorem q_410 : Cond.code yX10_existingCamera cX10_existingCamera 2 (some (.object "FireNet$Camera")) ∈ TB := tb_in 410 (by decide +kernel) (by decide +kernel)
theorem q_411 : Cond.classLink RX10 358 "java/lang/IndexOutOfBoundsException" ∈ TB := tb_in 411 (by decide +kernel) (by decide +kernel)
theorem q_412 : Cond.instantiable "java/lang/IndexOutOfBoundsException" 6 ∈ TB := tb_in 412 (by decide +kernel) (by decide +kernel)
theorem q_414 : Cond.selects "java/lang/IndexOutOfBoundsException" ⟨"java/lang/Throwable", "fillInStackTrace", "(I)Ljava/lang/Throwable;"⟩ ⟨"java/lang/Throwable", "fillInStackTrace", "(I)Ljava/lang/Throwable;"⟩ ∈ TB := tb_in 414 (by decide +kernel) (by decide +kernel)
theorem q_415 : Cond.lays "java/lang/IndexOutOfBoundsException" "java/lang/Throwable" "cause" "Ljava/lang/Throwable;" ∈ TB := tb_in 415 (by decide +kernel) (by decide +kernel)
theorem q_416 : Cond.lays "java/lang/IndexOutOfBoundsException" "java/lang/Throwable" "stackTrace" "[Ljava/lang/StackTraceElement;" ∈ TB := tb_in 416 (by decide +kernel) (by decide +kernel)
theorem q_417 : Cond.lays "java/lang/IndexOutOfBoundsException" "java/lang/Throwable" "suppressedExceptions" "Ljava/util/List;" ∈ TB := tb_in 417 (by decide +kernel) (by decide +kernel)
theorem q_418 : Cond.lays "java/lang/IndexOutOfBoundsException" "java/lang/Throwable" "detailMessage" "Ljava/lang/String;" ∈ TB := tb_in 418 (by decide +kernel) (by decide +kernel)
theorem q_419 : Cond.lays "java/lang/IndexOutOfBoundsException" "java/lang/Throwable" "backtrace" "Ljava/lang/Object;" ∈ TB := tb_in 419 (by decide +kernel) (by decide +kernel)
theorem q_421 : Cond.methodLink RX10 362 ⟨"java/lang/IndexOutOfBoundsException", "<init>", "(Ljava/lang/String;)V"⟩ ∈ TB := tb_in 421 (by decide +kernel) (by decide +kernel)
theorem q_422 : Cond.instanceMethod ⟨"java/lang/IndexOutOfBoundsException", "<init>", "(Ljava/lang/String;)V"⟩ ∈ TB := tb_in 422 (by decide +kernel) (by decide +kernel)
theorem q_423 : Cond.code ⟨"java/lang/IndexOutOfBoundsException", "<init>", "(Ljava/lang/String;)V"⟩ prog_19_method_2_code 2 none ∈ TB := tb_in 423 (by decide +kernel) (by decide +kernel)
theorem q_424 : Cond.methodLink "java/lang/IndexOutOfBoundsException" 7 ⟨"java/lang/RuntimeException", "<init>", "(Ljava/lang/String;)V"⟩ ∈ TB := tb_in 424 (by decide +kernel) (by decide +kernel)
theorem q_425 : Cond.lays "java/lang/IndexOutOfBoundsException" "java/lang/Throwable" "depth" "I" ∈ TB := tb_in 425 (by decide +kernel) (by decide +kernel)
theorem q_428 : Cond.methodLink RX10 184 ⟨RJxbd725, "get", "(I)Ljava/lang/Object;"⟩ ∈ TB := tb_in 428 (by decide +kernel) (by decide +kernel)
theorem q_431 : Cond.selects RJx4a65c ⟨RJxbd725, "get", "(I)Ljava/lang/Object;"⟩ yJx4a65c_get_915e3 ∈ TB := tb_in 431 (by decide +kernel) (by decide +kernel)
theorem q_433 : Cond.instanceMethod yJx4a65c_get_915e3 ∈ TB := tb_in 433 (by decide +kernel) (by decide +kernel)
theorem q_435 : Cond.code yJx4a65c_get_915e3 cJx4a65c_get_915e3 2 (some (.object "java/lang/Object")) ∈ TB := tb_in 435 (by decide +kernel) (by decide +kernel)
theorem q_436 : Cond.methodLink RJx4a65c 118 yJ15_checkIndex_7cf53 ∈ TB := tb_in 436 (by decide +kernel) (by decide +kernel)
theorem q_437 : Cond.static yJ15_checkIndex_7cf53 ∈ TB := tb_in 437 (by decide +kernel) (by decide +kernel)
theorem q_438 : Cond.code yJ15_checkIndex_7cf53 cJ15_checkIndex_7cf53 2 (some .int) ∈ TB := tb_in 438 (by decide +kernel) (by decide +kernel)
theorem q_439 : Cond.methodLink RJ15 105 yJ3_checkIndex_8e157 ∈ TB := tb_in 439 (by decide +kernel) (by decide +kernel)
theorem q_440 : Cond.static yJ3_checkIndex_8e157 ∈ TB := tb_in 440 (by decide +kernel) (by decide +kernel)
theorem q_441 : Cond.code yJ3_checkIndex_8e157 cJ3_checkIndex_8e157 3 (some .int) ∈ TB := tb_in 441 (by decide +kernel) (by decide +kernel)
theorem q_442 : Cond.methodLink RJx4a65c 123 yJx4a65c_elementData_915e3 ∈ TB := tb_in 442 (by decide +kernel) (by decide +kernel)
theorem q_443 : Cond.instanceMethod yJx4a65c_elementData_915e3 ∈ TB := tb_in 443 (by decide +kernel) (by decide +kernel)
theorem q_444 : Cond.selects RJx4a65c yJx4a65c_elementData_915e3 yJx4a65c_elementData_915e3 ∈ TB := tb_in 444 (by decide +kernel) (by decide +kernel)
theorem q_445 : Cond.code yJx4a65c_elementData_915e3 cJx4a65c_elementData_915e3 2 (some (.object "java/lang/Object")) ∈ TB := tb_in 445 (by decide +kernel) (by decide +kernel)
theorem q_446 : Cond.methodLink RX10 108 yX10_gatherFireballs ∈ TB := tb_in 446 (by decide +kernel) (by decide +kernel)
theorem q_448 : Cond.instanceMethod yX10_gatherFireballs ∈ TB := tb_in 448 (by decide +kernel) (by decide +kernel)
theorem q_449 : Cond.code yX10_gatherFireballs cX10_gatherFireballs 3 none ∈ TB := tb_in 449 (by decide +kernel) (by decide +kernel)
theorem q_450 : Cond.methodLink RX10 374 yX4_clear ∈ TB := tb_in 450 (by decide +kernel) (by decide +kernel)
theorem q_451 : Cond.instanceMethod yX4_clear ∈ TB := tb_in 451 (by decide +kernel) (by decide +kernel)
theorem q_452 : Cond.selects RX4 yX4_clear yX4_clear ∈ TB := tb_in 452 (by decide +kernel) (by decide +kernel)
theorem q_453 : Cond.code yX4_clear cX4_clear 1 none ∈ TB := tb_in 453 (by decide +kernel) (by decide +kernel)
theorem q_454 : Cond.methodLink RX10 377 yX10_joinSightings ∈ TB := tb_in 454 (by decide +kernel) (by decide +kernel)
theorem q_456 : Cond.instanceMethod yX10_joinSightings ∈ TB := tb_in 456 (by decide +kernel) (by decide +kernel)
theorem q_457 : Cond.code yX10_joinSightings cX10_joinSightings 5 none ∈ TB := tb_in 457 (by decide +kernel) (by decide +kernel)
theorem q_458 : Cond.classLink RX10 140 RX6 ∈ TB := tb_in 458 (by decide +kernel) (by decide +kernel)
theorem q_459 : Cond.methodLink RX10 384 yX10_doJoin ∈ TB := tb_in 459 (by decide +kernel) (by decide +kernel)
theorem q_461 : Cond.instanceMethod yX10_doJoin ∈ TB := tb_in 461 (by decide +kernel) (by decide +kernel)
theorem q_462 : Cond.code yX10_doJoin cX10_doJoin 3 (some .boolean) ∈ TB := tb_in 462 (by decide +kernel) (by decide +kernel)
theorem q_463 : Cond.methodLink RX10 388 yX6_mayJoin ∈ TB := tb_in 463 (by decide +kernel) (by decide +kernel)
theorem q_464 : Cond.instanceMethod yX6_mayJoin ∈ TB := tb_in 464 (by decide +kernel) (by decide +kernel)
theorem q_465 : Cond.selects RX6 yX6_mayJoin yX6_mayJoin ∈ TB := tb_in 465 (by decide +kernel) (by decide +kernel)
theorem q_466 : Cond.code yX6_mayJoin cX6_mayJoin 2 (some .boolean) ∈ TB := tb_in 466 (by decide +kernel) (by decide +kernel)
theorem q_467 : Cond.methodLink RX6 36 yX6_counts ∈ TB := tb_in 467 (by decide +kernel) (by decide +kernel)
theorem q_468 : Cond.instanceMethod yX6_counts ∈ TB := tb_in 468 (by decide +kernel) (by decide +kernel)
theorem q_469 : Cond.selects RX6 yX6_counts yX6_counts ∈ TB := tb_in 469 (by decide +kernel) (by decide +kernel)
theorem q_470 : Cond.code yX6_counts cX6_counts 1 (some .boolean) ∈ TB := tb_in 470 (by decide +kernel) (by decide +kernel)
theorem q_471 : Cond.methodLink RX6 40 yX6_rightSecond ∈ TB := tb_in 471 (by decide +kernel) (by decide +kernel)
theorem q_472 : Cond.instanceMethod yX6_rightSecond ∈ TB := tb_in 472 (by decide +kernel) (by decide +kernel)
theorem q_473 : Cond.selects RX6 yX6_rightSecond yX6_rightSecond ∈ TB := tb_in 473 (by decide +kernel) (by decide +kernel)
theorem q_474 : Cond.code yX6_rightSecond cX6_rightSecond 1 (some .int) ∈ TB := tb_in 474 (by decide +kernel) (by decide +kernel)
theorem q_475 : Cond.methodLink RX6 44 yJ9_abs_0f7a4 ∈ TB := tb_in 475 (by decide +kernel) (by decide +kernel)
theorem q_476 : Cond.static yJ9_abs_0f7a4 ∈ TB := tb_in 476 (by decide +kernel) (by decide +kernel)
theorem q_477 : Cond.code yJ9_abs_0f7a4 cJ9_abs_0f7a4 1 (some .int) ∈ TB := tb_in 477 (by decide +kernel) (by decide +kernel)
theorem q_478 : Cond.methodLink RX10 392 yX2_isOfBegins ∈ TB := tb_in 478 (by decide +kernel) (by decide +kernel)
theorem q_479 : Cond.instanceMethod yX2_isOfBegins ∈ TB := tb_in 479 (by decide +kernel) (by decide +kernel)
theorem q_480 : Cond.selects RX2 yX2_isOfBegins yX2_isOfBegins ∈ TB := tb_in 480 (by decide +kernel) (by decide +kernel)
theorem q_481 : Cond.code yX2_isOfBegins cX2_isOfBegins 3 (some .boolean) ∈ TB := tb_in 481 (by decide +kernel) (by decide +kernel)
theorem q_482 : Cond.methodLink RX2 20 yX2_isOf ∈ TB := tb_in 482 (by decide +kernel) (by decide +kernel)
theorem q_483 : Cond.instanceMethod yX2_isOf ∈ TB := tb_in 483 (by decide +kernel) (by decide +kernel)
theorem q_484 : Cond.selects RX2 yX2_isOf yX2_isOf ∈ TB := tb_in 484 (by decide +kernel) (by decide +kernel)
theorem q_485 : Cond.code yX2_isOf cX2_isOf 17 (some .boolean) ∈ TB := tb_in 485 (by decide +kernel) (by decide +kernel)
theorem q_486 : Cond.constantLong RX2 40 (100 : Int64) ∈ TB := tb_in 486 (by decide +kernel) (by decide +kernel)
theorem q_487 : Cond.methodLink RX2 42 yJ9_floorDiv_f86c9 ∈ TB := tb_in 487 (by decide +kernel) (by decide +kernel)
theorem q_488 : Cond.static yJ9_floorDiv_f86c9 ∈ TB := tb_in 488 (by decide +kernel) (by decide +kernel)
theorem q_489 : Cond.code yJ9_floorDiv_f86c9 cJ9_floorDiv_f86c9 6 (some .long) ∈ TB := tb_in 489 (by decide +kernel) (by decide +kernel)
theorem q_490 : Cond.methodLink RX10 395 yX2_isOfEnds ∈ TB := tb_in 490 (by decide +kernel) (by decide +kernel)
theorem q_491 : Cond.instanceMethod yX2_isOfEnds ∈ TB := tb_in 491 (by decide +kernel) (by decide +kernel)
theorem q_492 : Cond.selects RX2 yX2_isOfEnds yX2_isOfEnds ∈ TB := tb_in 492 (by decide +kernel) (by decide +kernel)
theorem q_493 : Cond.code yX2_isOfEnds cX2_isOfEnds 3 (some .boolean) ∈ TB := tb_in 493 (by decide +kernel) (by decide +kernel)
theorem q_494 : Cond.methodLink RX10 380 yX10_gatherInto ∈ TB := tb_in 494 (by decide +kernel) (by decide +kernel)
theorem q_496 : Cond.instanceMethod yX10_gatherInto ∈ TB := tb_in 496 (by decide +kernel) (by decide +kernel)
theorem q_497 : Cond.code yX10_gatherInto cX10_gatherInto 7 none ∈ TB := tb_in 497 (by decide +kernel) (by decide +kernel)
theorem q_498 : Cond.methodLink RX10 398 yX10_groupOf ∈ TB := tb_in 498 (by decide +kernel) (by decide +kernel)
theorem q_500 : Cond.instanceMethod yX10_groupOf ∈ TB := tb_in 500 (by decide +kernel) (by decide +kernel)
theorem q_501 : Cond.code yX10_groupOf cX10_groupOf 9 (some .long) ∈ TB := tb_in 501 (by decide +kernel) (by decide +kernel)
theorem q_502 : Cond.methodLink RX10 401 yX10_holds ∈ TB := tb_in 502 (by decide +kernel) (by decide +kernel)
theorem q_503 : Cond.static yX10_holds ∈ TB := tb_in 503 (by decide +kernel) (by decide +kernel)
theorem q_504 : Cond.code yX10_holds cX10_holds 3 (some .boolean) ∈ TB := tb_in 504 (by decide +kernel) (by decide +kernel)
theorem q_505 : Cond.methodLink RX10 405 yX4_add ∈ TB := tb_in 505 (by decide +kernel) (by decide +kernel)
theorem q_506 : Cond.instanceMethod yX4_add ∈ TB := tb_in 506 (by decide +kernel) (by decide +kernel)
theorem q_507 : Cond.selects RX4 yX4_add yX4_add ∈ TB := tb_in 507 (by decide +kernel) (by decide +kernel)
theorem q_508 : Cond.code yX4_add cX4_add 2 none ∈ TB := tb_in 508 (by decide +kernel) (by decide +kernel)
theorem q_509 : Cond.methodLink RX4 50 yJ9_max_f86c9 ∈ TB := tb_in 509 (by decide +kernel) (by decide +kernel)
theorem q_510 : Cond.static yJ9_max_f86c9 ∈ TB := tb_in 510 (by decide +kernel) (by decide +kernel)
theorem q_511 : Cond.code yJ9_max_f86c9 cJ9_max_f86c9 4 (some .long) ∈ TB := tb_in 511 (by decide +kernel) (by decide +kernel)
theorem q_512 : Cond.methodLink RX10 408 yX10_addPlaces ∈ TB := tb_in 512 (by decide +kernel) (by decide +kernel)
theorem q_514 : Cond.instanceMethod yX10_addPlaces ∈ TB := tb_in 514 (by decide +kernel) (by decide +kernel)
theorem q_515 : Cond.code yX10_addPlaces cX10_addPlaces 6 none ∈ TB := tb_in 515 (by decide +kernel) (by decide +kernel)
theorem q_516 : Cond.methodLink RX10 415 yX4_addPair ∈ TB := tb_in 516 (by decide +kernel) (by decide +kernel)
theorem q_517 : Cond.instanceMethod yX4_addPair ∈ TB := tb_in 517 (by decide +kernel) (by decide +kernel)
theorem q_518 : Cond.selects RX4 yX4_addPair yX4_addPair ∈ TB := tb_in 518 (by decide +kernel) (by decide +kernel)
theorem q_519 : Cond.code yX4_addPair cX4_addPair 3 none ∈ TB := tb_in 519 (by decide +kernel) (by decide +kernel)
theorem q_520 : Cond.methodLink RX10 412 yX4_settle ∈ TB := tb_in 520 (by decide +kernel) (by decide +kernel)
theorem q_521 : Cond.instanceMethod yX4_settle ∈ TB := tb_in 521 (by decide +kernel) (by decide +kernel)
theorem q_522 : Cond.selects RX4 yX4_settle yX4_settle ∈ TB := tb_in 522 (by decide +kernel) (by decide +kernel)
theorem q_523 : Cond.code yX4_settle cX4_settle 3 none ∈ TB := tb_in 523 (by decide +kernel) (by decide +kernel)
theorem q_525 : Cond.static yX10_divided ∈ TB := tb_in 525 (by decide +kernel) (by decide +kernel)
theorem q_526 : Cond.code yX10_divided cX10_divided 4 (some .long) ∈ TB := tb_in 526 (by decide +kernel) (by decide +kernel)
theorem q_527 : Cond.methodLink RX10 469 yJ9_floorDiv_f86c9 ∈ TB := tb_in 527 (by decide +kernel) (by decide +kernel)
theorem q_528 : Cond.methodLink RX4 69 yX4_flightX ∈ TB := tb_in 528 (by decide +kernel) (by decide +kernel)
theorem q_529 : Cond.instanceMethod yX4_flightX ∈ TB := tb_in 529 (by decide +kernel) (by decide +kernel)
theorem q_530 : Cond.selects RX4 yX4_flightX yX4_flightX ∈ TB := tb_in 530 (by decide +kernel) (by decide +kernel)
theorem q_531 : Cond.code yX4_flightX cX4_flightX 1 (some .long) ∈ TB := tb_in 531 (by decide +kernel) (by decide +kernel)
theorem q_532 : Cond.methodLink RX4 73 yX4_flightY ∈ TB := tb_in 532 (by decide +kernel) (by decide +kernel)
theorem q_533 : Cond.instanceMethod yX4_flightY ∈ TB := tb_in 533 (by decide +kernel) (by decide +kernel)
theorem q_534 : Cond.selects RX4 yX4_flightY yX4_flightY ∈ TB := tb_in 534 (by decide +kernel) (by decide +kernel)
theorem q_535 : Cond.code yX4_flightY cX4_flightY 1 (some .long) ∈ TB := tb_in 535 (by decide +kernel) (by decide +kernel)
theorem q_537 : Cond.static yX10_rootOf ∈ TB := tb_in 537 (by decide +kernel) (by decide +kernel)
theorem q_538 : Cond.code yX10_rootOf cX10_rootOf 7 (some .long) ∈ TB := tb_in 538 (by decide +kernel) (by decide +kernel)
theorem q_539 : Cond.constantLong RX4 80 (10 : Int64) ∈ TB := tb_in 539 (by decide +kernel) (by decide +kernel)
theorem q_540 : Cond.constantLong RX4 88 (1000 : Int64) ∈ TB := tb_in 540 (by decide +kernel) (by decide +kernel)
theorem q_541 : Cond.methodLink RL 89 yX10_begin ∈ TB := tb_in 541 (by decide +kernel) (by decide +kernel)
theorem q_542 : Cond.instanceMethod yX10_begin ∈ TB := tb_in 542 (by decide +kernel) (by decide +kernel)
theorem q_543 : Cond.selects RX10 yX10_begin yX10_begin ∈ TB := tb_in 543 (by decide +kernel) (by decide +kernel)
theorem q_544 : Cond.code yX10_begin cX10_begin 7 none ∈ TB := tb_in 544 (by decide +kernel) (by decide +kernel)
theorem q_545 : Cond.methodLink RX10 111 yX10_requireNight ∈ TB := tb_in 545 (by decide +kernel) (by decide +kernel)
theorem q_546 : Cond.static yX10_requireNight ∈ TB := tb_in 546 (by decide +kernel) (by decide +kernel)
theorem q_547 : Cond.code yX10_requireNight cX10_requireNight 1 none ∈ TB := tb_in 547 (by decide +kernel) (by decide +kernel)
theorem q_548 : Cond.constant RX10 137 (86399 : Int32) ∈ TB := tb_in 548 (by decide +kernel) (by decide +kernel)
theorem q_549 : Cond.methodLink RX10 115 yX10_isCloudy ∈ TB := tb_in 549 (by decide +kernel) (by decide +kernel)
theorem q_551 : Cond.instanceMethod yX10_isCloudy ∈ TB := tb_in 551 (by decide +kernel) (by decide +kernel)
theorem q_552 : Cond.code yX10_isCloudy cX10_isCloudy 3 (some .boolean) ∈ TB := tb_in 552 (by decide +kernel) (by decide +kernel)
theorem q_553 : Cond.methodLink RX10 133 yX10_cloudyNights ∈ TB := tb_in 553 (by decide +kernel) (by decide +kernel)
theorem q_555 : Cond.instanceMethod yX10_cloudyNights ∈ TB := tb_in 555 (by decide +kernel) (by decide +kernel)
theorem q_556 : Cond.code yX10_cloudyNights cX10_cloudyNights 7 (some .int) ∈ TB := tb_in 556 (by decide +kernel) (by decide +kernel)
theorem q_557 : Cond.classLink RX10 128 RX1 ∈ TB := tb_in 557 (by decide +kernel) (by decide +kernel)
theorem q_559 : Cond.instantiable RX6 12 ∈ TB := tb_in 559 (by decide +kernel) (by decide +kernel)
theorem q_560 : Cond.methodLink RX10 142 yX6_init ∈ TB := tb_in 560 (by decide +kernel) (by decide +kernel)
theorem q_561 : Cond.instanceMethod yX6_init ∈ TB := tb_in 561 (by decide +kernel) (by decide +kernel)
theorem q_562 : Cond.code yX6_init cX6_init 6 none ∈ TB := tb_in 562 (by decide +kernel) (by decide +kernel)
theorem q_563 : Cond.methodLink RX6 3 objectInit ∈ TB := tb_in 563 (by decide +kernel) (by decide +kernel)
theorem q_564 : Cond.fieldLink RX6 15 "FireNet$Sighting" "camera" "LFireNet$Camera;" ∈ TB := tb_in 564 (by decide +kernel) (by decide +kernel)
theorem q_565 : Cond.fieldLink RX2 7 "FireNet$Sighting" "camera" "LFireNet$Camera;" ∈ TB := tb_in 565 (by decide +kernel) (by decide +kernel)
theorem q_566 : Cond.fieldLink RX10 150 "FireNet$Sighting" "camera" "LFireNet$Camera;" ∈ TB := tb_in 566 (by decide +kernel) (by decide +kernel)
theorem q_567 : Cond.fieldLink RX6 19 "FireNet$Sighting" "night" "I" ∈ TB := tb_in 567 (by decide +kernel) (by decide +kernel)
theorem q_568 : Cond.fieldLink RX4 38 "FireNet$Sighting" "night" "I" ∈ TB := tb_in 568 (by decide +kernel) (by decide +kernel)
theorem q_569 : Cond.fieldLink RX10 154 "FireNet$Sighting" "night" "I" ∈ TB := tb_in 569 (by decide +kernel) (by decide +kernel)
theorem q_570 : Cond.fieldLink RX6 22 "FireNet$Sighting" "second" "I" ∈ TB := tb_in 570 (by decide +kernel) (by decide +kernel)
theorem q_571 : Cond.fieldLink RX6 25 "FireNet$Sighting" "length" "I" ∈ TB := tb_in 571 (by decide +kernel) (by decide +kernel)
theorem q_572 : Cond.fieldLink RX4 44 "FireNet$Sighting" "length" "I" ∈ TB := tb_in 572 (by decide +kernel) (by decide +kernel)
theorem q_573 : Cond.fieldLink RX6 28 "FireNet$Sighting" "light" "I" ∈ TB := tb_in 573 (by decide +kernel) (by decide +kernel)
theorem q_574 : Cond.fieldLink RX4 47 "FireNet$Sighting" "light" "I" ∈ TB := tb_in 574 (by decide +kernel) (by decide +kernel)
theorem q_575 : Cond.fieldLink RX2 13 "FireNet$Sighting" "beginX" "I" ∈ TB := tb_in 575 (by decide +kernel) (by decide +kernel)
theorem q_576 : Cond.fieldLink RX10 161 "FireNet$Sighting" "beginX" "I" ∈ TB := tb_in 576 (by decide +kernel) (by decide +kernel)
theorem q_577 : Cond.fieldLink RX2 17 "FireNet$Sighting" "beginY" "I" ∈ TB := tb_in 577 (by decide +kernel) (by decide +kernel)
theorem q_578 : Cond.fieldLink RX10 164 "FireNet$Sighting" "beginY" "I" ∈ TB := tb_in 578 (by decide +kernel) (by decide +kernel)
theorem q_579 : Cond.fieldLink RX2 26 "FireNet$Sighting" "endX" "I" ∈ TB := tb_in 579 (by decide +kernel) (by decide +kernel)
theorem q_580 : Cond.fieldLink RX10 167 "FireNet$Sighting" "endX" "I" ∈ TB := tb_in 580 (by decide +kernel) (by decide +kernel)
theorem q_581 : Cond.fieldLink RX2 29 "FireNet$Sighting" "endY" "I" ∈ TB := tb_in 581 (by decide +kernel) (by decide +kernel)
theorem q_582 : Cond.fieldLink RX10 170 "FireNet$Sighting" "endY" "I" ∈ TB := tb_in 582 (by decide +kernel) (by decide +kernel)
theorem q_583 : Cond.fieldLink RX10 180 "FireNet$Sighting" "joined" "J" ∈ TB := tb_in 583 (by decide +kernel) (by decide +kernel)
theorem q_584 : Cond.fieldLink RX6 9 "FireNet$Sighting" "fireball" "I" ∈ TB := tb_in 584 (by decide +kernel) (by decide +kernel)
theorem q_585 : Cond.fieldLink RX10 177 "FireNet$Sighting" "fireball" "I" ∈ TB := tb_in 585 (by decide +kernel) (by decide +kernel)
theorem q_586 : Cond.fieldLink RX10 188 "FireNet$Sighting" "lowest" "I" ∈ TB := tb_in 586 (by decide +kernel) (by decide +kernel)
theorem q_587 : Cond.laysFinal RX6 "FireNet$Sighting" "camera" "LFireNet$Camera;" ∈ TB := tb_in 587 (by decide +kernel) (by decide +kernel)
theorem q_589 : Cond.laysFinal RX6 "FireNet$Sighting" "night" "I" ∈ TB := tb_in 589 (by decide +kernel) (by decide +kernel)
theorem q_591 : Cond.laysFinal RX6 "FireNet$Sighting" "second" "I" ∈ TB := tb_in 591 (by decide +kernel) (by decide +kernel)
theorem q_593 : Cond.laysFinal RX6 "FireNet$Sighting" "length" "I" ∈ TB := tb_in 593 (by decide +kernel) (by decide +kernel)
theorem q_595 : Cond.laysFinal RX6 "FireNet$Sighting" "light" "I" ∈ TB := tb_in 595 (by decide +kernel) (by decide +kernel)
theorem q_597 : Cond.lays RX6 "FireNet$Sighting" "beginX" "I" ∈ TB := tb_in 597 (by decide +kernel) (by decide +kernel)
theorem q_599 : Cond.lays RX6 "FireNet$Sighting" "beginY" "I" ∈ TB := tb_in 599 (by decide +kernel) (by decide +kernel)
theorem q_601 : Cond.lays RX6 "FireNet$Sighting" "endX" "I" ∈ TB := tb_in 601 (by decide +kernel) (by decide +kernel)
theorem q_603 : Cond.lays RX6 "FireNet$Sighting" "endY" "I" ∈ TB := tb_in 603 (by decide +kernel) (by decide +kernel)
theorem q_605 : Cond.lays RX6 "FireNet$Sighting" "joined" "J" ∈ TB := tb_in 605 (by decide +kernel) (by decide +kernel)
theorem q_607 : Cond.lays RX6 "FireNet$Sighting" "fireball" "I" ∈ TB := tb_in 607 (by decide +kernel) (by decide +kernel)
theorem q_609 : Cond.lays RX6 "FireNet$Sighting" "lowest" "I" ∈ TB := tb_in 609 (by decide +kernel) (by decide +kernel)
theorem q_612 : Cond.methodLink RL 93 yX10_end ∈ TB := tb_in 612 (by decide +kernel) (by decide +kernel)
theorem q_613 : Cond.instanceMethod yX10_end ∈ TB := tb_in 613 (by decide +kernel) (by decide +kernel)
theorem q_614 : Cond.selects RX10 yX10_end yX10_end ∈ TB := tb_in 614 (by decide +kernel) (by decide +kernel)
theorem q_615 : Cond.code yX10_end cX10_end 6 (some .int) ∈ TB := tb_in 615 (by decide +kernel) (by decide +kernel)
theorem q_616 : Cond.methodLink RX10 145 yX10_requireDirection ∈ TB := tb_in 616 (by decide +kernel) (by decide +kernel)
theorem q_617 : Cond.static yX10_requireDirection ∈ TB := tb_in 617 (by decide +kernel) (by decide +kernel)
theorem q_618 : Cond.code yX10_requireDirection cX10_requireDirection 2 none ∈ TB := tb_in 618 (by decide +kernel) (by decide +kernel)
theorem q_623 : Cond.methodLink RL 100 yX10_wind ∈ TB := tb_in 623 (by decide +kernel) (by decide +kernel)
theorem q_624 : Cond.instanceMethod yX10_wind ∈ TB := tb_in 624 (by decide +kernel) (by decide +kernel)
theorem q_625 : Cond.selects RX10 yX10_wind yX10_wind ∈ TB := tb_in 625 (by decide +kernel) (by decide +kernel)
theorem q_626 : Cond.code yX10_wind cX10_wind 5 none ∈ TB := tb_in 626 (by decide +kernel) (by decide +kernel)
theorem q_627 : Cond.methodLink RX10 215 yX10_windOf ∈ TB := tb_in 627 (by decide +kernel) (by decide +kernel)
theorem q_629 : Cond.instanceMethod yX10_windOf ∈ TB := tb_in 629 (by decide +kernel) (by decide +kernel)
theorem q_630 : Cond.code yX10_windOf cX10_windOf 3 (some (.object "FireNet$Wind")) ∈ TB := tb_in 630 (by decide +kernel) (by decide +kernel)
theorem q_631 : Cond.classLink RX10 221 RX9 ∈ TB := tb_in 631 (by decide +kernel) (by decide +kernel)
theorem q_633 : Cond.instantiable RX9 3 ∈ TB := tb_in 633 (by decide +kernel) (by decide +kernel)
theorem q_634 : Cond.methodLink RX10 223 yX9_init ∈ TB := tb_in 634 (by decide +kernel) (by decide +kernel)
theorem q_635 : Cond.instanceMethod yX9_init ∈ TB := tb_in 635 (by decide +kernel) (by decide +kernel)
theorem q_636 : Cond.code yX9_init cX9_init 2 none ∈ TB := tb_in 636 (by decide +kernel) (by decide +kernel)
theorem q_637 : Cond.methodLink RX9 1 objectInit ∈ TB := tb_in 637 (by decide +kernel) (by decide +kernel)
theorem q_638 : Cond.fieldLink RX9 7 "FireNet$Wind" "night" "I" ∈ TB := tb_in 638 (by decide +kernel) (by decide +kernel)
theorem q_639 : Cond.fieldLink RX10 423 "FireNet$Wind" "night" "I" ∈ TB := tb_in 639 (by decide +kernel) (by decide +kernel)
theorem q_640 : Cond.fieldLink RX10 225 "FireNet$Wind" "x" "I" ∈ TB := tb_in 640 (by decide +kernel) (by decide +kernel)
theorem q_641 : Cond.fieldLink RX10 228 "FireNet$Wind" "y" "I" ∈ TB := tb_in 641 (by decide +kernel) (by decide +kernel)
theorem q_642 : Cond.laysFinal RX9 "FireNet$Wind" "night" "I" ∈ TB := tb_in 642 (by decide +kernel) (by decide +kernel)
theorem q_644 : Cond.lays RX9 "FireNet$Wind" "x" "I" ∈ TB := tb_in 644 (by decide +kernel) (by decide +kernel)
theorem q_646 : Cond.lays RX9 "FireNet$Wind" "y" "I" ∈ TB := tb_in 646 (by decide +kernel) (by decide +kernel)
theorem q_649 : Cond.methodLink RL 104 yX10_walk ∈ TB := tb_in 649 (by decide +kernel) (by decide +kernel)
theorem q_650 : Cond.instanceMethod yX10_walk ∈ TB := tb_in 650 (by decide +kernel) (by decide +kernel)
theorem q_651 : Cond.selects RX10 yX10_walk yX10_walk ∈ TB := tb_in 651 (by decide +kernel) (by decide +kernel)
theorem q_652 : Cond.code yX10_walk cX10_walk 6 (some .long) ∈ TB := tb_in 652 (by decide +kernel) (by decide +kernel)
theorem q_653 : Cond.methodLink RX10 199 yX10_existingFireball ∈ TB := tb_in 653 (by decide +kernel) (by decide +kernel)
theorem q_655 : Cond.instanceMethod yX10_existingFireball ∈ TB := tb_in 655 (by decide +kernel) (by decide +kernel)
theorem q_656 : Cond.code yX10_existingFireball cX10_existingFireball 2 (some (.object "FireNet$Fireball")) ∈ TB := tb_in 656 (by decide +kernel) (by decide +kernel)
theorem q_657 : Cond.methodLink RX10 365 yX4_exists ∈ TB := tb_in 657 (by decide +kernel) (by decide +kernel)
theorem q_658 : Cond.instanceMethod yX4_exists ∈ TB := tb_in 658 (by decide +kernel) (by decide +kernel)
theorem q_659 : Cond.selects RX4 yX4_exists yX4_exists ∈ TB := tb_in 659 (by decide +kernel) (by decide +kernel)
theorem q_660 : Cond.code yX4_exists cX4_exists 1 (some .boolean) ∈ TB := tb_in 660 (by decide +kernel) (by decide +kernel)
theorem q_663 : Cond.classLink RX10 233 RX8 ∈ TB := tb_in 663 (by decide +kernel) (by decide +kernel)
theorem q_664 : Cond.instantiable RX8 5 ∈ TB := tb_in 664 (by decide +kernel) (by decide +kernel)
theorem q_665 : Cond.methodLink RX10 235 yX10_wasWalked ∈ TB := tb_in 665 (by decide +kernel) (by decide +kernel)
theorem q_667 : Cond.instanceMethod yX10_wasWalked ∈ TB := tb_in 667 (by decide +kernel) (by decide +kernel)
theorem q_668 : Cond.code yX10_wasWalked cX10_wasWalked 5 (some .boolean) ∈ TB := tb_in 668 (by decide +kernel) (by decide +kernel)
theorem q_669 : Cond.methodLink RX10 424 yX8_isThrough ∈ TB := tb_in 669 (by decide +kernel) (by decide +kernel)
theorem q_670 : Cond.instanceMethod yX8_isThrough ∈ TB := tb_in 670 (by decide +kernel) (by decide +kernel)
theorem q_671 : Cond.selects RX8 yX8_isThrough yX8_isThrough ∈ TB := tb_in 671 (by decide +kernel) (by decide +kernel)
theorem q_672 : Cond.code yX8_isThrough cX8_isThrough 4 (some .boolean) ∈ TB := tb_in 672 (by decide +kernel) (by decide +kernel)
theorem q_673 : Cond.methodLink RX10 239 yX8_init ∈ TB := tb_in 673 (by decide +kernel) (by decide +kernel)
theorem q_674 : Cond.instanceMethod yX8_init ∈ TB := tb_in 674 (by decide +kernel) (by decide +kernel)
theorem q_675 : Cond.code yX8_init cX8_init 6 none ∈ TB := tb_in 675 (by decide +kernel) (by decide +kernel)
theorem q_676 : Cond.methodLink RX8 1 objectInit ∈ TB := tb_in 676 (by decide +kernel) (by decide +kernel)
theorem q_677 : Cond.fieldLink RX8 7 "FireNet$Walk" "fireball" "I" ∈ TB := tb_in 677 (by decide +kernel) (by decide +kernel)
theorem q_678 : Cond.fieldLink RX10 459 "FireNet$Walk" "fireball" "I" ∈ TB := tb_in 678 (by decide +kernel) (by decide +kernel)
theorem q_679 : Cond.fieldLink RX8 13 "FireNet$Walk" "x" "I" ∈ TB := tb_in 679 (by decide +kernel) (by decide +kernel)
theorem q_680 : Cond.fieldLink RX10 460 "FireNet$Walk" "x" "I" ∈ TB := tb_in 680 (by decide +kernel) (by decide +kernel)
theorem q_681 : Cond.fieldLink RX8 16 "FireNet$Walk" "y" "I" ∈ TB := tb_in 681 (by decide +kernel) (by decide +kernel)
theorem q_682 : Cond.fieldLink RX10 461 "FireNet$Walk" "y" "I" ∈ TB := tb_in 682 (by decide +kernel) (by decide +kernel)
theorem q_683 : Cond.fieldLink RX8 19 "FireNet$Walk" "skill" "I" ∈ TB := tb_in 683 (by decide +kernel) (by decide +kernel)
theorem q_684 : Cond.fieldLink RX10 448 "FireNet$Walk" "skill" "I" ∈ TB := tb_in 684 (by decide +kernel) (by decide +kernel)
theorem q_685 : Cond.fieldLink RX8 22 "FireNet$Walk" "first" "Z" ∈ TB := tb_in 685 (by decide +kernel) (by decide +kernel)
theorem q_686 : Cond.fieldLink RX10 456 "FireNet$Walk" "first" "Z" ∈ TB := tb_in 686 (by decide +kernel) (by decide +kernel)
theorem q_687 : Cond.laysFinal RX8 "FireNet$Walk" "fireball" "I" ∈ TB := tb_in 687 (by decide +kernel) (by decide +kernel)
theorem q_689 : Cond.laysFinal RX8 "FireNet$Walk" "x" "I" ∈ TB := tb_in 689 (by decide +kernel) (by decide +kernel)
theorem q_691 : Cond.laysFinal RX8 "FireNet$Walk" "y" "I" ∈ TB := tb_in 691 (by decide +kernel) (by decide +kernel)
theorem q_693 : Cond.laysFinal RX8 "FireNet$Walk" "skill" "I" ∈ TB := tb_in 693 (by decide +kernel) (by decide +kernel)
theorem q_695 : Cond.laysFinal RX8 "FireNet$Walk" "first" "Z" ∈ TB := tb_in 695 (by decide +kernel) (by decide +kernel)
theorem q_698 : Cond.methodLink RX10 242 yX10_chanceIn ∈ TB := tb_in 698 (by decide +kernel) (by decide +kernel)
theorem q_700 : Cond.instanceMethod yX10_chanceIn ∈ TB := tb_in 700 (by decide +kernel) (by decide +kernel)
theorem q_701 : Cond.code yX10_chanceIn cX10_chanceIn 6 (some .long) ∈ TB := tb_in 701 (by decide +kernel) (by decide +kernel)
theorem q_702 : Cond.methodLink RX10 427 yX3_scatter ∈ TB := tb_in 702 (by decide +kernel) (by decide +kernel)
theorem q_703 : Cond.instanceMethod yX3_scatter ∈ TB := tb_in 703 (by decide +kernel) (by decide +kernel)
theorem q_704 : Cond.selects RX3 yX3_scatter yX3_scatter ∈ TB := tb_in 704 (by decide +kernel) (by decide +kernel)
theorem q_705 : Cond.code yX3_scatter cX3_scatter 4 none ∈ TB := tb_in 705 (by decide +kernel) (by decide +kernel)
theorem q_706 : Cond.methodLink RX10 431 yX3_weight ∈ TB := tb_in 706 (by decide +kernel) (by decide +kernel)
theorem q_707 : Cond.instanceMethod yX3_weight ∈ TB := tb_in 707 (by decide +kernel) (by decide +kernel)
theorem q_708 : Cond.selects RX3 yX3_weight yX3_weight ∈ TB := tb_in 708 (by decide +kernel) (by decide +kernel)
theorem q_709 : Cond.code yX3_weight cX3_weight 8 (some .long) ∈ TB := tb_in 709 (by decide +kernel) (by decide +kernel)
theorem q_710 : Cond.methodLink RX3 37 yX3_pieceX ∈ TB := tb_in 710 (by decide +kernel) (by decide +kernel)
theorem q_711 : Cond.instanceMethod yX3_pieceX ∈ TB := tb_in 711 (by decide +kernel) (by decide +kernel)
theorem q_712 : Cond.selects RX3 yX3_pieceX yX3_pieceX ∈ TB := tb_in 712 (by decide +kernel) (by decide +kernel)
theorem q_713 : Cond.code yX3_pieceX cX3_pieceX 2 (some .long) ∈ TB := tb_in 713 (by decide +kernel) (by decide +kernel)
theorem q_714 : Cond.constantLong RX3 29 (100 : Int64) ∈ TB := tb_in 714 (by decide +kernel) (by decide +kernel)
theorem q_715 : Cond.methodLink RX3 31 yJ9_floorDiv_f86c9 ∈ TB := tb_in 715 (by decide +kernel) (by decide +kernel)
theorem q_716 : Cond.methodLink RX3 41 yJ9_abs_067f4 ∈ TB := tb_in 716 (by decide +kernel) (by decide +kernel)
theorem q_717 : Cond.static yJ9_abs_067f4 ∈ TB := tb_in 717 (by decide +kernel) (by decide +kernel)
theorem q_718 : Cond.code yJ9_abs_067f4 cJ9_abs_067f4 2 (some .long) ∈ TB := tb_in 718 (by decide +kernel) (by decide +kernel)
theorem q_719 : Cond.methodLink RX3 45 yX3_pieceY ∈ TB := tb_in 719 (by decide +kernel) (by decide +kernel)
theorem q_720 : Cond.instanceMethod yX3_pieceY ∈ TB := tb_in 720 (by decide +kernel) (by decide +kernel)
theorem q_721 : Cond.selects RX3 yX3_pieceY yX3_pieceY ∈ TB := tb_in 721 (by decide +kernel) (by decide +kernel)
theorem q_722 : Cond.code yX3_pieceY cX3_pieceY 2 (some .long) ∈ TB := tb_in 722 (by decide +kernel) (by decide +kernel)
theorem q_723 : Cond.methodLink RX3 48 yJ9_max_f86c9 ∈ TB := tb_in 723 (by decide +kernel) (by decide +kernel)
theorem q_724 : Cond.constantLong RX3 51 (8 : Int64) ∈ TB := tb_in 724 (by decide +kernel) (by decide +kernel)
theorem q_725 : Cond.constantLong RX3 53 (1000000 : Int64) ∈ TB := tb_in 725 (by decide +kernel) (by decide +kernel)
theorem q_726 : Cond.methodLink RX10 435 yX10_weightLeft ∈ TB := tb_in 726 (by decide +kernel) (by decide +kernel)
theorem q_728 : Cond.instanceMethod yX10_weightLeft ∈ TB := tb_in 728 (by decide +kernel) (by decide +kernel)
theorem q_729 : Cond.code yX10_weightLeft cX10_weightLeft 10 (some .long) ∈ TB := tb_in 729 (by decide +kernel) (by decide +kernel)
theorem q_730 : Cond.constantLong RX10 451 (100 : Int64) ∈ TB := tb_in 730 (by decide +kernel) (by decide +kernel)
theorem q_731 : Cond.constantLong RX10 439 (1000000 : Int64) ∈ TB := tb_in 731 (by decide +kernel) (by decide +kernel)
theorem q_732 : Cond.methodLink RX10 441 yX10_weightOfGround ∈ TB := tb_in 732 (by decide +kernel) (by decide +kernel)
theorem q_734 : Cond.instanceMethod yX10_weightOfGround ∈ TB := tb_in 734 (by decide +kernel) (by decide +kernel)
theorem q_735 : Cond.code yX10_weightOfGround cX10_weightOfGround 8 (some .long) ∈ TB := tb_in 735 (by decide +kernel) (by decide +kernel)
theorem q_736 : Cond.methodLink RX10 453 yX3_weightOfGround ∈ TB := tb_in 736 (by decide +kernel) (by decide +kernel)
theorem q_737 : Cond.instanceMethod yX3_weightOfGround ∈ TB := tb_in 737 (by decide +kernel) (by decide +kernel)
theorem q_738 : Cond.selects RX3 yX3_weightOfGround yX3_weightOfGround ∈ TB := tb_in 738 (by decide +kernel) (by decide +kernel)
theorem q_739 : Cond.code yX3_weightOfGround cX3_weightOfGround 9 (some .long) ∈ TB := tb_in 739 (by decide +kernel) (by decide +kernel)
theorem q_740 : Cond.methodLink RX3 55 yX3_cellsWithin ∈ TB := tb_in 740 (by decide +kernel) (by decide +kernel)
theorem q_741 : Cond.static yX3_cellsWithin ∈ TB := tb_in 741 (by decide +kernel) (by decide +kernel)
theorem q_742 : Cond.code yX3_cellsWithin cX3_cellsWithin 7 (some .long) ∈ TB := tb_in 742 (by decide +kernel) (by decide +kernel)
theorem q_743 : Cond.constantLong RX3 59 (99 : Int64) ∈ TB := tb_in 743 (by decide +kernel) (by decide +kernel)
theorem q_744 : Cond.methodLink RX3 61 yJ9_min_f86c9 ∈ TB := tb_in 744 (by decide +kernel) (by decide +kernel)
theorem q_745 : Cond.static yJ9_min_f86c9 ∈ TB := tb_in 745 (by decide +kernel) (by decide +kernel)
theorem q_746 : Cond.code yJ9_min_f86c9 cJ9_min_f86c9 4 (some .long) ∈ TB := tb_in 746 (by decide +kernel) (by decide +kernel)
theorem q_747 : Cond.methodLink RX10 444 yX10_divided ∈ TB := tb_in 747 (by decide +kernel) (by decide +kernel)
theorem q_748 : Cond.methodLink RL 112 yX10_find ∈ TB := tb_in 748 (by decide +kernel) (by decide +kernel)
theorem q_749 : Cond.instanceMethod yX10_find ∈ TB := tb_in 749 (by decide +kernel) (by decide +kernel)
theorem q_750 : Cond.selects RX10 yX10_find yX10_find ∈ TB := tb_in 750 (by decide +kernel) (by decide +kernel)
theorem q_751 : Cond.code yX10_find cX10_find 9 (some .int) ∈ TB := tb_in 751 (by decide +kernel) (by decide +kernel)
theorem q_752 : Cond.constant RX10 246 (1000000 : Int32) ∈ TB := tb_in 752 (by decide +kernel) (by decide +kernel)
theorem q_754 : Cond.methodLink RX10 249 yX10_landOf ∈ TB := tb_in 754 (by decide +kernel) (by decide +kernel)
theorem q_755 : Cond.static yX10_landOf ∈ TB := tb_in 755 (by decide +kernel) (by decide +kernel)
theorem q_756 : Cond.code yX10_landOf cX10_landOf 2 (some .int) ∈ TB := tb_in 756 (by decide +kernel) (by decide +kernel)
theorem q_757 : Cond.methodLink RX10 253 yX10_lawIn ∈ TB := tb_in 757 (by decide +kernel) (by decide +kernel)
theorem q_759 : Cond.instanceMethod yX10_lawIn ∈ TB := tb_in 759 (by decide +kernel) (by decide +kernel)
theorem q_760 : Cond.code yX10_lawIn cX10_lawIn 2 (some .int) ∈ TB := tb_in 760 (by decide +kernel) (by decide +kernel)
theorem q_761 : Cond.classLink RX10 257 RX7 ∈ TB := tb_in 761 (by decide +kernel) (by decide +kernel)
theorem q_762 : Cond.instantiable RX7 16 ∈ TB := tb_in 762 (by decide +kernel) (by decide +kernel)
theorem q_763 : Cond.methodLink RX10 259 yX7_init ∈ TB := tb_in 763 (by decide +kernel) (by decide +kernel)
theorem q_764 : Cond.instanceMethod yX7_init ∈ TB := tb_in 764 (by decide +kernel) (by decide +kernel)
theorem q_765 : Cond.code yX7_init cX7_init 8 none ∈ TB := tb_in 765 (by decide +kernel) (by decide +kernel)
theorem q_766 : Cond.methodLink RX7 3 objectInit ∈ TB := tb_in 766 (by decide +kernel) (by decide +kernel)
theorem q_767 : Cond.fieldLink RX7 24 "FireNet$Stone" "number" "I" ∈ TB := tb_in 767 (by decide +kernel) (by decide +kernel)
theorem q_768 : Cond.fieldLink RX10 262 "FireNet$Stone" "number" "I" ∈ TB := tb_in 768 (by decide +kernel) (by decide +kernel)
theorem q_769 : Cond.fieldLink RX7 27 "FireNet$Stone" "x" "I" ∈ TB := tb_in 769 (by decide +kernel) (by decide +kernel)
theorem q_770 : Cond.fieldLink RX10 325 "FireNet$Stone" "x" "I" ∈ TB := tb_in 770 (by decide +kernel) (by decide +kernel)
theorem q_771 : Cond.fieldLink RX7 30 "FireNet$Stone" "y" "I" ∈ TB := tb_in 771 (by decide +kernel) (by decide +kernel)
theorem q_772 : Cond.fieldLink RX10 326 "FireNet$Stone" "y" "I" ∈ TB := tb_in 772 (by decide +kernel) (by decide +kernel)
theorem q_773 : Cond.fieldLink RX7 33 "FireNet$Stone" "night" "I" ∈ TB := tb_in 773 (by decide +kernel) (by decide +kernel)
theorem q_774 : Cond.fieldLink RX10 462 "FireNet$Stone" "night" "I" ∈ TB := tb_in 774 (by decide +kernel) (by decide +kernel)
theorem q_775 : Cond.fieldLink RX7 42 "FireNet$Stone" "origin" "LFireNet$Stone;" ∈ TB := tb_in 775 (by decide +kernel) (by decide +kernel)
theorem q_776 : Cond.fieldLink RX7 36 "FireNet$Stone" "grams" "I" ∈ TB := tb_in 776 (by decide +kernel) (by decide +kernel)
theorem q_777 : Cond.fieldLink RX7 39 "FireNet$Stone" "owner" "I" ∈ TB := tb_in 777 (by decide +kernel) (by decide +kernel)
theorem q_778 : Cond.fieldLink RX7 9 "FireNet$Stone" "where" "I" ∈ TB := tb_in 778 (by decide +kernel) (by decide +kernel)
theorem q_779 : Cond.fieldLink RX7 15 "FireNet$Stone" "laboratory" "I" ∈ TB := tb_in 779 (by decide +kernel) (by decide +kernel)
theorem q_780 : Cond.fieldLink RX7 18 "FireNet$Stone" "iron" "I" ∈ TB := tb_in 780 (by decide +kernel) (by decide +kernel)
theorem q_781 : Cond.fieldLink RX7 21 "FireNet$Stone" "place" "I" ∈ TB := tb_in 781 (by decide +kernel) (by decide +kernel)
theorem q_782 : Cond.laysFinal RX7 "FireNet$Stone" "number" "I" ∈ TB := tb_in 782 (by decide +kernel) (by decide +kernel)
theorem q_784 : Cond.laysFinal RX7 "FireNet$Stone" "x" "I" ∈ TB := tb_in 784 (by decide +kernel) (by decide +kernel)
theorem q_786 : Cond.laysFinal RX7 "FireNet$Stone" "y" "I" ∈ TB := tb_in 786 (by decide +kernel) (by decide +kernel)
theorem q_788 : Cond.laysFinal RX7 "FireNet$Stone" "night" "I" ∈ TB := tb_in 788 (by decide +kernel) (by decide +kernel)
theorem q_790 : Cond.laysFinal RX7 "FireNet$Stone" "origin" "LFireNet$Stone;" ∈ TB := tb_in 790 (by decide +kernel) (by decide +kernel)
theorem q_792 : Cond.lays RX7 "FireNet$Stone" "grams" "I" ∈ TB := tb_in 792 (by decide +kernel) (by decide +kernel)
theorem q_794 : Cond.lays RX7 "FireNet$Stone" "lost" "I" ∈ TB := tb_in 794 (by decide +kernel) (by decide +kernel)
theorem q_796 : Cond.lays RX7 "FireNet$Stone" "owner" "I" ∈ TB := tb_in 796 (by decide +kernel) (by decide +kernel)
theorem q_798 : Cond.lays RX7 "FireNet$Stone" "where" "I" ∈ TB := tb_in 798 (by decide +kernel) (by decide +kernel)
theorem q_800 : Cond.lays RX7 "FireNet$Stone" "laboratory" "I" ∈ TB := tb_in 800 (by decide +kernel) (by decide +kernel)
theorem q_802 : Cond.lays RX7 "FireNet$Stone" "iron" "I" ∈ TB := tb_in 802 (by decide +kernel) (by decide +kernel)
theorem q_804 : Cond.lays RX7 "FireNet$Stone" "texture" "I" ∈ TB := tb_in 804 (by decide +kernel) (by decide +kernel)
theorem q_806 : Cond.lays RX7 "FireNet$Stone" "shock" "I" ∈ TB := tb_in 806 (by decide +kernel) (by decide +kernel)
theorem q_808 : Cond.lays RX7 "FireNet$Stone" "place" "I" ∈ TB := tb_in 808 (by decide +kernel) (by decide +kernel)
theorem q_810 : Cond.lays RX7 "FireNet$Stone" "numberOfName" "I" ∈ TB := tb_in 810 (by decide +kernel) (by decide +kernel)
theorem q_812 : Cond.lays RX7 "FireNet$Stone" "doubtful" "Z" ∈ TB := tb_in 812 (by decide +kernel) (by decide +kernel)
theorem q_815 : Cond.methodLink RL 116 yX10_fall ∈ TB := tb_in 815 (by decide +kernel) (by decide +kernel)
theorem q_816 : Cond.instanceMethod yX10_fall ∈ TB := tb_in 816 (by decide +kernel) (by decide +kernel)
theorem q_817 : Cond.selects RX10 yX10_fall yX10_fall ∈ TB := tb_in 817 (by decide +kernel) (by decide +kernel)
theorem q_818 : Cond.code yX10_fall cX10_fall 2 (some .int) ∈ TB := tb_in 818 (by decide +kernel) (by decide +kernel)
theorem q_819 : Cond.methodLink RX10 264 yX10_existingStone ∈ TB := tb_in 819 (by decide +kernel) (by decide +kernel)
theorem q_821 : Cond.instanceMethod yX10_existingStone ∈ TB := tb_in 821 (by decide +kernel) (by decide +kernel)
theorem q_822 : Cond.code yX10_existingStone cX10_existingStone 2 (some (.object "FireNet$Stone")) ∈ TB := tb_in 822 (by decide +kernel) (by decide +kernel)
theorem q_824 : Cond.methodLink RX10 268 yX10_fallOf ∈ TB := tb_in 824 (by decide +kernel) (by decide +kernel)
theorem q_826 : Cond.instanceMethod yX10_fallOf ∈ TB := tb_in 826 (by decide +kernel) (by decide +kernel)
theorem q_827 : Cond.code yX10_fallOf cX10_fallOf 9 (some .int) ∈ TB := tb_in 827 (by decide +kernel) (by decide +kernel)
theorem q_828 : Cond.methodLink RL 81 yL_cell ∈ TB := tb_in 828 (by decide +kernel) (by decide +kernel)
theorem q_829 : Cond.static yL_cell ∈ TB := tb_in 829 (by decide +kernel) (by decide +kernel)
theorem q_830 : Cond.code yL_cell cL_cell 2 (some .int) ∈ TB := tb_in 830 (by decide +kernel) (by decide +kernel)
theorem q_831 : Cond.constant RL 7 (1000308305 : Int32) ∈ TB := tb_in 831 (by decide +kernel) (by decide +kernel)
theorem q_832 : Cond.constant RL 8 (751363479 : Int32) ∈ TB := tb_in 832 (by decide +kernel) (by decide +kernel)
theorem q_833 : Cond.methodLink RL 70 yL_low ∈ TB := tb_in 833 (by decide +kernel) (by decide +kernel)
theorem q_834 : Cond.static yL_low ∈ TB := tb_in 834 (by decide +kernel) (by decide +kernel)
theorem q_835 : Cond.code yL_low cL_low 2 (some .int) ∈ TB := tb_in 835 (by decide +kernel) (by decide +kernel)
theorem q_836 : Cond.constant RL 9 (2147483647 : Int32) ∈ TB := tb_in 836 (by decide +kernel) (by decide +kernel)
theorem q_837 : Cond.methodLink RL 26 yL_group ∈ TB := tb_in 837 (by decide +kernel) (by decide +kernel)
theorem q_838 : Cond.static yL_group ∈ TB := tb_in 838 (by decide +kernel) (by decide +kernel)
theorem q_839 : Cond.code yL_group cL_group 9 (some .int) ∈ TB := tb_in 839 (by decide +kernel) (by decide +kernel)
theorem q_840 : Cond.methodLink RL 22 yL_joins ∈ TB := tb_in 840 (by decide +kernel) (by decide +kernel)
theorem q_841 : Cond.static yL_joins ∈ TB := tb_in 841 (by decide +kernel) (by decide +kernel)
theorem q_842 : Cond.code yL_joins cL_joins 6 (some .boolean) ∈ TB := tb_in 842 (by decide +kernel) (by decide +kernel)
theorem q_843 : Cond.methodLink RL 18 yL_cross ∈ TB := tb_in 843 (by decide +kernel) (by decide +kernel)
theorem q_844 : Cond.static yL_cross ∈ TB := tb_in 844 (by decide +kernel) (by decide +kernel)
theorem q_845 : Cond.code yL_cross cL_cross 26 (some .boolean) ∈ TB := tb_in 845 (by decide +kernel) (by decide +kernel)
theorem q_846 : Cond.constantLong RL 10 (100 : Int64) ∈ TB := tb_in 846 (by decide +kernel) (by decide +kernel)
theorem q_847 : Cond.methodLink RL 12 yL_down ∈ TB := tb_in 847 (by decide +kernel) (by decide +kernel)
theorem q_848 : Cond.static yL_down ∈ TB := tb_in 848 (by decide +kernel) (by decide +kernel)
theorem q_849 : Cond.code yL_down cL_down 6 (some .long) ∈ TB := tb_in 849 (by decide +kernel) (by decide +kernel)
theorem q_850 : Cond.arrayClass .long ∈ TB := tb_in 850 (by decide +kernel) (by decide +kernel)
theorem q_851 : Cond.methodLink RL 58 yL_all ∈ TB := tb_in 851 (by decide +kernel) (by decide +kernel)
theorem q_852 : Cond.static yL_all ∈ TB := tb_in 852 (by decide +kernel) (by decide +kernel)
theorem q_853 : Cond.code yL_all cL_all 18 none ∈ TB := tb_in 853 (by decide +kernel) (by decide +kernel)
theorem q_854 : Cond.constantLong RL 30 (1073741824 : Int64) ∈ TB := tb_in 854 (by decide +kernel) (by decide +kernel)
theorem q_855 : Cond.constantLong RL 32 (2 : Int64) ∈ TB := tb_in 855 (by decide +kernel) (by decide +kernel)
theorem q_856 : Cond.constantLong RL 34 (10 : Int64) ∈ TB := tb_in 856 (by decide +kernel) (by decide +kernel)
theorem q_857 : Cond.constantLong RL 36 (1000 : Int64) ∈ TB := tb_in 857 (by decide +kernel) (by decide +kernel)
theorem q_858 : Cond.methodLink RL 78 yL_chance ∈ TB := tb_in 858 (by decide +kernel) (by decide +kernel)
theorem q_859 : Cond.static yL_chance ∈ TB := tb_in 859 (by decide +kernel) (by decide +kernel)
theorem q_860 : Cond.code yL_chance cL_chance 10 (some .long) ∈ TB := tb_in 860 (by decide +kernel) (by decide +kernel)
theorem q_861 : Cond.methodLink RL 42 yL_weight ∈ TB := tb_in 861 (by decide +kernel) (by decide +kernel)
theorem q_862 : Cond.static yL_weight ∈ TB := tb_in 862 (by decide +kernel) (by decide +kernel)
theorem q_863 : Cond.code yL_weight cL_weight 15 (some .long) ∈ TB := tb_in 863 (by decide +kernel) (by decide +kernel)
theorem q_864 : Cond.constantLong RL 38 (8 : Int64) ∈ TB := tb_in 864 (by decide +kernel) (by decide +kernel)
theorem q_865 : Cond.constantLong RL 40 (1000000 : Int64) ∈ TB := tb_in 865 (by decide +kernel) (by decide +kernel)
theorem q_866 : Cond.methodLink RL 108 yL_right ∈ TB := tb_in 866 (by decide +kernel) (by decide +kernel)
theorem q_867 : Cond.static yL_right ∈ TB := tb_in 867 (by decide +kernel) (by decide +kernel)
theorem q_868 : Cond.code yL_right cL_right 11 (some .boolean) ∈ TB := tb_in 868 (by decide +kernel) (by decide +kernel)
theorem q_869 : Cond.methodLink RL 46 yX10_fireball ∈ TB := tb_in 869 (by decide +kernel) (by decide +kernel)
theorem q_870 : Cond.instanceMethod yX10_fireball ∈ TB := tb_in 870 (by decide +kernel) (by decide +kernel)
theorem q_871 : Cond.selects RX10 yX10_fireball yX10_fireball ∈ TB := tb_in 871 (by decide +kernel) (by decide +kernel)
theorem q_872 : Cond.code yX10_fireball cX10_fireball 2 (some .int) ∈ TB := tb_in 872 (by decide +kernel) (by decide +kernel)
theorem q_873 : Cond.methodLink RX10 173 yX10_existingSighting ∈ TB := tb_in 873 (by decide +kernel) (by decide +kernel)
theorem q_875 : Cond.instanceMethod yX10_existingSighting ∈ TB := tb_in 875 (by decide +kernel) (by decide +kernel)
theorem q_876 : Cond.code yX10_existingSighting cX10_existingSighting 2 (some (.object "FireNet$Sighting")) ∈ TB := tb_in 876 (by decide +kernel) (by decide +kernel)
theorem q_878 : Cond.methodLink RL 52 yX10_fireballAnew ∈ TB := tb_in 878 (by decide +kernel) (by decide +kernel)
theorem q_879 : Cond.instanceMethod yX10_fireballAnew ∈ TB := tb_in 879 (by decide +kernel) (by decide +kernel)
theorem q_880 : Cond.selects RX10 yX10_fireballAnew yX10_fireballAnew ∈ TB := tb_in 880 (by decide +kernel) (by decide +kernel)
theorem q_881 : Cond.code yX10_fireballAnew cX10_fireballAnew 5 (some .int) ∈ TB := tb_in 881 (by decide +kernel) (by decide +kernel)
theorem q_882 : Cond.methodLink RX10 191 yX10_spreadLowest ∈ TB := tb_in 882 (by decide +kernel) (by decide +kernel)
theorem q_884 : Cond.instanceMethod yX10_spreadLowest ∈ TB := tb_in 884 (by decide +kernel) (by decide +kernel)
theorem q_885 : Cond.code yX10_spreadLowest cX10_spreadLowest 6 (some .boolean) ∈ TB := tb_in 885 (by decide +kernel) (by decide +kernel)
theorem q_886 : Cond.methodLink RL 55 yX10_fireballs ∈ TB := tb_in 886 (by decide +kernel) (by decide +kernel)
theorem q_887 : Cond.instanceMethod yX10_fireballs ∈ TB := tb_in 887 (by decide +kernel) (by decide +kernel)
theorem q_888 : Cond.selects RX10 yX10_fireballs yX10_fireballs ∈ TB := tb_in 888 (by decide +kernel) (by decide +kernel)
theorem q_889 : Cond.code yX10_fireballs cX10_fireballs 2 (some .int) ∈ TB := tb_in 889 (by decide +kernel) (by decide +kernel)
theorem q_890 : Cond.methodLink RX10 195 yX10_countFireballs ∈ TB := tb_in 890 (by decide +kernel) (by decide +kernel)
theorem q_892 : Cond.instanceMethod yX10_countFireballs ∈ TB := tb_in 892 (by decide +kernel) (by decide +kernel)
theorem q_893 : Cond.code yX10_countFireballs cX10_countFireballs 7 (some .int) ∈ TB := tb_in 893 (by decide +kernel) (by decide +kernel)
theorem q_894 : Cond.methodLink RL 62 yX10_told ∈ TB := tb_in 894 (by decide +kernel) (by decide +kernel)
theorem q_895 : Cond.instanceMethod yX10_told ∈ TB := tb_in 895 (by decide +kernel) (by decide +kernel)
theorem q_896 : Cond.selects RX10 yX10_told yX10_told ∈ TB := tb_in 896 (by decide +kernel) (by decide +kernel)
theorem q_897 : Cond.code yX10_told cX10_told 4 (some .long) ∈ TB := tb_in 897 (by decide +kernel) (by decide +kernel)
theorem q_898 : Cond.methodLink RX10 203 yX4_number ∈ TB := tb_in 898 (by decide +kernel) (by decide +kernel)
theorem q_899 : Cond.instanceMethod yX4_number ∈ TB := tb_in 899 (by decide +kernel) (by decide +kernel)
theorem q_900 : Cond.selects RX4 yX4_number yX4_number ∈ TB := tb_in 900 (by decide +kernel) (by decide +kernel)
theorem q_901 : Cond.code yX4_number cX4_number 2 (some .long) ∈ TB := tb_in 901 (by decide +kernel) (by decide +kernel)
theorem q_902 : Cond.constantLong RL 66 (9900 : Int64) ∈ TB := tb_in 902 (by decide +kernel) (by decide +kernel)
theorem q_903 : Cond.constantLong RL 68 (99 : Int64) ∈ TB := tb_in 903 (by decide +kernel) (by decide +kernel)
theorem q_904 : Cond.methodLink RL 74 yX10_chance ∈ TB := tb_in 904 (by decide +kernel) (by decide +kernel)
theorem q_905 : Cond.instanceMethod yX10_chance ∈ TB := tb_in 905 (by decide +kernel) (by decide +kernel)
theorem q_906 : Cond.selects RX10 yX10_chance yX10_chance ∈ TB := tb_in 906 (by decide +kernel) (by decide +kernel)
theorem q_907 : Cond.code yX10_chance cX10_chance 5 (some .long) ∈ TB := tb_in 907 (by decide +kernel) (by decide +kernel)
theorem q_908 : Cond.sameMethod "java/lang/Throwable" "java/lang/Throwable" "fillInStackTrace" "(I)Ljava/lang/Throwable;" ∈ TB := tb_in 908 (by decide +kernel) (by decide +kernel)
theorem q_925 : Cond.sameMethod "[Ljava/lang/Object;" "java/lang/Object" "getClass" "()Ljava/lang/Class;" ∈ TB := tb_in 925 (by decide +kernel) (by decide +kernel)
theorem q_926 : Cond.selects "[Ljava/lang/Object;" ⟨"java/lang/Object", "getClass", "()Ljava/lang/Class;"⟩ ⟨"java/lang/Object", "getClass", "()Ljava/lang/Class;"⟩ ∈ TB := tb_in 926 (by decide +kernel) (by decide +kernel)
theorem q_933 : Cond.fieldLink RX10 372 "FireNet$Cloud" "camera" "LFireNet$Camera;" ∈ TB := tb_in 933 (by decide +kernel) (by decide +kernel)
theorem q_934 : Cond.fieldLink RX10 373 "FireNet$Cloud" "night" "I" ∈ TB := tb_in 934 (by decide +kernel) (by decide +kernel)
end
section
theorem zz_one : True := trivial
end
