/-! ===== the law's arrays beside the class's memory ===== -/
def AXf (A : Nat → Prop) (L : va_W) : Nat → Prop := fun z => A z ∧ ∀ (k : Nat) (r : Nat × va_E), L[k]? = some r → z ≠ r.1
def XO (D : va_G) (a : Nat → ClassId) (x e0 : Nat) (B : Nat → Prop) (ξ : Option XS) (H : Heap) : Prop := match ξ with
  | none => True
  | some σ => XP D a x e0 B σ H
/-- the law's arrays L, what A doesn't name unchanged since H0, and the class's memory in the rest of A -/
def HL (D : va_G) (a : Nat → ClassId) (x e0 : Nat) (A : Nat → Prop) (L : va_W) (ξ : Option XS) (H0 H : Heap) (locs : List Loc) : Prop := va_P D vwCl L H ∧ va_D (fun _ => True) L ∧ va_S A H0 H locs ∧ XO D a x e0 (AXf A L) ξ H
/-- loops by an invariant that counts down -/
def winv {α : Type} (N : Nat) (step : α → (α → Prop) → (α → Prop) → Prop) (v0 : α) (X : α → Prop) : Prop := ∃ I : Nat → α → Prop, I N v0 ∧ (∀ v, ¬ I 0 v) ∧ ∀ n v, I (n + 1) v → step v (I n) X
theorem inv_W {α : Type} {I : Nat → α → Prop} (P : Nat → α → Prop) (n0 : ∀ v, ¬ I 0 v) (hs : ∀ n v, I (n + 1) v → (∀ v', I n v' → P n v') → P (n + 1) v) : ∀ (n : Nat) (v : α), I n v → P n v := by
  intro n
  induction n with
  | zero => intro v h; exact (n0 v h).elim
  | succ n ih => intro v h; exact hs n v h (fun v' h' => ih v' h')
/-- an answer of the class's, whatever addresses it takes -/
def rcl {α : Type} (F : Nat → Except Nat (α × XS)) (σ : XS) (G : α → XS → Prop) : Prop := ∀ N, xk σ N = 0 → N ≠ 0 → ∃ v σ', F N = .ok (v, σ') ∧ G v σ'
def rc0 {α : Type} (F : Except Nat α) (G : α → Prop) : Prop := ∃ v, F = .ok v ∧ G v
/-- whole rows of the law's memory -/
def mQ (μ : MS) (k : Nat) (g : Nat → Int64) : MS := (μ.1, fun b => if b = k then g else μ.2 b)
def mZI (μ : MS) (k : Nat) : MS := ((fun b => if b = k then (fun _ => 0) else μ.1 b), μ.2)
def mZJ (μ : MS) (k : Nat) : MS := (μ.1, fun b => if b = k then (fun _ => 0) else μ.2 b)
section LRULES
variable {p : Program} {l : Launch} {e : Env} {R : Room} {s : State} {m : MethodId} {args : Array Value} {below : List Frame} {meth : Method} {c : Code} {H H0 H1 : Heap} {locs : List Loc} {cells slots : Nat} {Q : State → Prop} {D : va_G} {a : Nat → ClassId} {x e0 : Nat} {A : Nat → Prop} {σ : XS} {ξ : Option XS} {L : va_W} {cc : ByteArray} {nL : Nat} {pc : Nat} {ls : Array Slot} {rest st : List Value} {own : String} {idx : Nat} {y : MethodName} {bytes : ByteArray} {maxL n fr lo mc ms : Nat} {ret : Option FieldType} {av : List Value} {q : Nat}
theorem EV.narrow {A B : Nat → Prop} {U : State} (h : EV D a e0 A U H) (hAB : ∀ q, B q → A q) (hB : ∀ q, H.size ≤ q → B q) : EV D a e0 B U H := by
  obtain ⟨h1, h2, h3, h4, h5, h6, h7, h8, ⟨f, h9⟩, h10⟩ := h
  refine ⟨h1, h2, h3, h4.narrow hAB, h5.narrow hAB, hB, h7, ?_, ⟨f, h9.narrow hAB⟩, h10⟩
  obtain ⟨cf, kf, fi, g, ad, cell, g1, g2, g3, g4, g5, g6, g7, g8⟩ := h8
  exact ⟨cf, kf, fi, g, ad, cell, g1, g2, g3, g4, g5, g6, g7, fun z => g8 (hAB _ z)⟩
theorem XO.mono {B B' : Nat → Prop} (h : XO D a x e0 B ξ H) (hB : ∀ q, B q → q < H.size → B' q) (hk : ∀ q, B q → q < H.size → H1[q]? = H[q]?) : XO D a x e0 B' ξ H1 := by
  cases ξ with
  | none => trivial
  | some σ =>
    obtain ⟨Mp, ow, hM, hs⟩ := h
    exact ⟨Mp, ow, fun z en hz => ⟨(hM z en hz).1.kept (hk z (hM z en hz).2.1 (hM z en hz).1.lt), hB z (hM z en hz).2.1 (hM z en hz).1.lt, (hM z en hz).2.2⟩, hs⟩
theorem va_P.at_lt (h : va_P D vwCl L H) {k : Nat} {r : Nat × va_E} (hk : L[k]? = some r) : r.1 < H.size := (h k r hk).lt
/-- one array is another -/
theorem HL.set {k : Nat} {E E' : va_E} {locs1 : List Loc} (h : HL D a x e0 A L ξ H0 H locs) (hk : L[k]? = some (q, E)) (e1 : va_at D vwCl (q, E') H1) (e3 : ∀ z, z ≠ q → H1[z]? = H[z]?) (hS : va_S A H0 H1 locs1) : HL D a x e0 A (L.set k (q, E')) ξ H0 H1 locs1 := by
  obtain ⟨h1, h2, h3, h4⟩ := h
  have hl := (List.getElem?_eq_some_iff.mp hk).1
  refine ⟨h1.set h2 hk e1 e3, h2.set hk, hS, h4.mono (fun z hz _ => ⟨hz.1, fun j r hj => ?_⟩) (fun z hz _ => e3 z (hz.2 k _ hk))⟩
  by_cases hjk : j = k
  · subst hjk
    rw [List.getElem?_set_self hl] at hj
    cases hj
    exact hz.2 j (q, E) hk
  · rw [List.getElem?_set_ne (fun z => hjk z.symm)] at hj
    exact hz.2 j r hj
/-- fewer arrays -/
theorem HL.sub {L' : va_W} (h : HL D a x e0 A L ξ H0 H locs) (is : List Nat) (hn : va_nd is = true) (hs : is.map (fun i => L[i]?) = L'.map some) : HL D a x e0 A L' ξ H0 H locs := by
  obtain ⟨h1, h2, h3, h4⟩ := h
  have key : ∀ (k : Nat) (r : Nat × va_E), L'[k]? = some r → ∃ i : Nat, L[i]? = some r := by
    intro k r hk
    have h9 : (is.map (fun i => L[i]?))[k]? = some (some r) := by rw [hs, List.getElem?_map, hk]; rfl
    rw [List.getElem?_map] at h9
    cases hi : is[k]? with
    | none => rw [hi] at h9; cases h9
    | some i => rw [hi] at h9; exact ⟨i, Option.some.inj h9⟩
  refine ⟨fun k r hk => ?_, h2.sub is hn hs, h3, h4.mono (fun z hz _ => ⟨hz.1, fun k r hk => ?_⟩) (fun z _ _ => rfl)⟩
  · obtain ⟨i, hi⟩ := key k r hk
    exact h1 i r hi
  · obtain ⟨i, hi⟩ := key k r hk
    exact hz.2 i r hi
/-- one more array, just made -/
theorem HL.new {E : va_E} (h : HL D a x e0 A L ξ H0 H locs) (e1 : va_at D vwCl (H.size, E) H1) (z1 : H1.size = H.size + 1) (o1 : ∀ z, z < H.size → H1[z]? = H[z]?) : HL D a x e0 A (L ++ [(H.size, E)]) ξ H0 H1 locs := by
  obtain ⟨h1, h2, h3, h4⟩ := h
  have key : ∀ (k : Nat) (r : Nat × va_E), (L ++ [(H.size, E)])[k]? = some r → L[k]? = some r ∨ r = (H.size, E) := by
    intro k r hk
    rcases List.mem_append.mp (List.mem_of_getElem? hk) with h9 | h9
    · by_cases hl : k < L.length
      · rw [List.getElem?_append_left hl] at hk
        exact Or.inl hk
      · rw [List.getElem?_append_right (by omega)] at hk
        exact Or.inr (List.mem_singleton.mp (List.mem_of_getElem? hk))
    · exact Or.inr (List.mem_singleton.mp h9)
  refine ⟨fun k r hk => ?_, h2.push h1 rfl trivial, ⟨Nat.le_trans h3.1 (by omega), fun z g1 g2 => (o1 z (Nat.lt_of_lt_of_le g1 h3.1)).trans (h3.2.1 z g1 g2), h3.2.2⟩, h4.mono (fun z hz hl => ⟨hz.1, fun k r hk => ?_⟩) (fun z _ hl => o1 z hl)⟩
  · rcases key k r hk with h9 | h9
    · exact (h1 k r h9).kept (o1 _ (h1 k r h9).lt)
    · subst h9
      exact e1
  · rcases key k r hk with h9 | h9
    · exact hz.2 k r h9
    · subst h9
      show z ≠ H.size
      omega
theorem la_I (C : Cx D a p s m args c cc nL own) (hM : HL D a x e0 A L ξ s.heap H locs) (k : Nat) {N : Nat} {f : Nat → Int32} (hk : L[k]? = some (q, .inl (a 0, N, .inl f))) {i : Int32} (hin : vp_in i N) (hdg : decode cc pc = .ok (.iaload, 1)) (kk : W p l e R s m args below meth c H locs cells slots Q (F0 m (pc + 1) ls (.int (f (ix i)) :: rest))) : W p l e R s m args below meth c H locs cells slots Q (F0 m pc ls (.int i :: .ref q :: rest)) :=
  va_iald (D := D) (cl := vwCl) (tys := tyL a) C.1.1 C.1.2.1 C.2 hM.1 k 0 hk rfl hin hdg kk
theorem la_J (C : Cx D a p s m args c cc nL own) (hM : HL D a x e0 A L ξ s.heap H locs) (k : Nat) {N : Nat} {f : Nat → Int64} (hk : L[k]? = some (q, .inl (a 1, N, .inr (.inl f)))) {i : Int32} (hin : vp_in i N) (hdg : decode cc pc = .ok (.laload, 1)) (kk : W p l e R s m args below meth c H locs cells slots Q (F0 m (pc + 1) ls (.long (f (ix i)) :: rest))) : W p l e R s m args below meth c H locs cells slots Q (F0 m pc ls (.int i :: .ref q :: rest)) :=
  va_lald (D := D) (cl := vwCl) (tys := tyL a) C.1.1 C.1.2.1 C.2 hM.1 k 1 hk rfl hin hdg kk
theorem ls_I (C : Cx D a p s m args c cc nL own) (hM : HL D a x e0 A L ξ s.heap H locs) (k : Nat) {N : Nat} {f : Nat → Int32} (hk : L[k]? = some (q, .inl (a 0, N, .inl f))) (hA : A q) {i v : Int32} (hin : vp_in i N) (hdg : decode cc pc = .ok (.iastore, 1)) (kk : ∀ H locs, HL D a x e0 A (L.set k (q, .inl (a 0, N, .inl (fun b => if b = ix i then v else f b)))) ξ s.heap H locs → W p l e R s m args below meth c H locs cells slots Q (F0 m (pc + 1) ls rest)) : W p l e R s m args below meth c H locs cells slots Q (F0 m pc ls (.int v :: .int i :: .ref q :: rest)) := by
  have hat := hM.1 k _ hk
  refine W.iast (cell := vp_cell (a 0) (N, .inl f)) C.1.1 C.1.2.1 hat ((C.2.2 0 _ rfl).1 N (fun j => .int (f j))) (fun q => by cases q) (by show ¬ (i < 0 ∨ (arrV _ _ _).slots.size ≤ _); rw [arrV_size]; exact hin) rfl rfl hdg fun H1 e z oq => ?_
  refine kk H1 _ (hM.set hk ?_ oq (hM.2.2.1.put z oq hA))
  show H1[q]? = some (vp_cell _ _)
  rw [e]
  rw [vp_cell_i, vp_cell_i, arrV_store]
  congr 2
  funext j
  by_cases hq : j = ix i
  · subst hq
    simp [updV]
  · have hq' : ¬ j = i.toNatClampNeg := hq
    simp [updV, hq']
theorem ls_J (C : Cx D a p s m args c cc nL own) (hM : HL D a x e0 A L ξ s.heap H locs) (k : Nat) {N : Nat} {f : Nat → Int64} (hk : L[k]? = some (q, .inl (a 1, N, .inr (.inl f)))) (hA : A q) {i : Int32} {v : Int64} (hin : vp_in i N) (hdg : decode cc pc = .ok (.lastore, 1)) (kk : ∀ H locs, HL D a x e0 A (L.set k (q, .inl (a 1, N, .inr (.inl (fun b => if b = ix i then v else f b))))) ξ s.heap H locs → W p l e R s m args below meth c H locs cells slots Q (F0 m (pc + 1) ls rest)) : W p l e R s m args below meth c H locs cells slots Q (F0 m pc ls (.long v :: .int i :: .ref q :: rest)) := by
  have hat := hM.1 k _ hk
  refine W.last (cell := vp_cell (a 1) (N, .inr (.inl f))) C.1.1 C.1.2.1 hat ((C.2.2 1 _ rfl).1 N (fun j => .long (f j))) (fun q => by cases q) (by show ¬ (i < 0 ∨ (arrV _ _ _).slots.size ≤ _); rw [arrV_size]; exact hin) rfl rfl hdg fun H1 e z oq => ?_
  refine kk H1 _ (hM.set hk ?_ oq (hM.2.2.1.put z oq hA))
  show H1[q]? = some (vp_cell _ _)
  rw [e]
  rw [vp_cell_l, vp_cell_l, arrV_store]
  congr 2
  funext j
  by_cases hq : j = ix i
  · subst hq
    simp [updV]
  · have hq' : ¬ j = i.toNatClampNeg := hq
    simp [updV, hq']
theorem ln_I (C : Cx D a p s m args c cc nL own) (hM : HL D a x e0 A L ξ s.heap H locs) (hA : ∀ q, s.heap.size ≤ q → A q) {N : Nat} (hN : N ≤ 1000) (hc : cells + 1 ≤ R.cells) (hs : slots + N ≤ R.slots) (hdg : decode cc pc = .ok (.newarray .int, 2)) (kk : ∀ q H1 locs1, A q → HL D a x e0 A (L ++ [(q, .inl (a 0, N, .inl (fun _ => 0)))]) ξ s.heap H1 locs1 → W p l e R s m args below meth c H1 locs1 (cells + 1) (slots + N) Q (F0 m (pc + 2) ls (.ref q :: rest))) : W p l e R s m args below meth c H locs cells slots Q (F0 m pc ls (.int (nI N) :: rest)) := by
  refine va_newaK (atype := .int) C.1.1 C.1.2.1 (C.1.2.2.2.2 _ q_170) rfl hdg rfl (nI_pos (by omega)) (nI_clamp (by omega)) (by show N * 4 ≤ _; omega) hc hs rfl (fun H1 cA e1 z1 o1 _ hNm => ?_)
  have hcA := mi_cell (t := 0) (ty := .int) C rfl (fun _ h => by cases h) hNm
  subst hcA
  exact kk _ H1 _ (hA _ hM.2.2.1.1) (hM.new e1 z1 o1)
theorem ln_J (C : Cx D a p s m args c cc nL own) (hM : HL D a x e0 A L ξ s.heap H locs) (hA : ∀ q, s.heap.size ≤ q → A q) {N : Nat} (hN : N ≤ 1000) (hc : cells + 1 ≤ R.cells) (hs : slots + N ≤ R.slots) (hdg : decode cc pc = .ok (.newarray .long, 2)) (kk : ∀ q H1 locs1, A q → HL D a x e0 A (L ++ [(q, .inl (a 1, N, .inr (.inl (fun _ => 0))))]) ξ s.heap H1 locs1 → W p l e R s m args below meth c H1 locs1 (cells + 1) (slots + N) Q (F0 m (pc + 2) ls (.ref q :: rest))) : W p l e R s m args below meth c H locs cells slots Q (F0 m pc ls (.int (nI N) :: rest)) := by
  refine va_newaK (atype := .long) C.1.1 C.1.2.1 (C.1.2.2.2.2 _ q_850) rfl hdg rfl (nI_pos (by omega)) (nI_clamp (by omega)) (by show N * 8 ≤ _; omega) hc hs rfl (fun H1 cA e1 z1 o1 _ hNm => ?_)
  have hcA := mi_cell (t := 1) (ty := .long) C rfl (fun _ h => by cases h) hNm
  subst hcA
  exact kk _ H1 _ (hA _ hM.2.2.1.1) (hM.new e1 z1 o1)
/-! contracts of the law's methods over arrays -/
def BLa (D : va_G) (a : Nat → ClassId) (A : Nat → Prop) (L : va_W) (U : State) : Prop := va_K D vwCl (tyL a) U ∧ (∀ q, U.heap.size ≤ q → A q) ∧ va_P D vwCl L U.heap ∧ va_D (fun _ => True) L
theorem bla_good : GB D a (BLa D a A L) := ⟨fun U h => h.1, fun U g mk z h => ⟨bk_blind g mk z h.1, h.2⟩⟩
theorem goLi {B : State → Prop} {P : Heap → Option Value → Heap → Prop} (hy : plainName y.cls = true) (hB : GB D a B) (hlen : (lg_sl av).length ≤ maxL)
    (body : GoG l D a y bytes maxL fr lo mc ms av A B (fun p s m args below meth c e R Q => ∀ (pc : Nat) (ls : Array Slot) (H : Heap) (locs : List Loc) (v : Int32), va_S A s.heap H locs → decode bytes pc = .ok (.ireturn, 1) → P s.heap (some (.int v)) H → W p l e R s m args below meth c H locs mc ms Q (F0 m pc ls [.int v]))) : KG l y bytes maxL (some .int) fr lo mc ms av A B P := by
  refine Met.ofW (cc := bytes) (maxL := maxL) (ret := some .int) hy rfl ?_
  intro p e s m args below meth c s₁ B' hml hv
  obtain ⟨rfl, hP⟩ := hv
  have C : Cx D a p s m av.toArray c bytes maxL y.cls := ⟨⟨B'.exec, B'.bytes, hml, findClass_of_methodNamed B'.named, fun w h => atoms_spec (ws := .code y bytes maxL (some .int) :: TB) B'.pre w (List.mem_cons_of_mem _ h)⟩, hB.1 _ hP⟩
  have hl := lv_entry av (n := maxL) hlen
  have hr := B'.returns
  have hk := B'.notSynchronized
  rw [lg_entry_eq]
  refine body p e s m _ below meth c _ _ _ rfl rfl rfl rfl C hP hl ?_
  intro pc ls H locs v hS hdg hQ
  exact W.iret C.1.1 C.1.2.1 hr (fun t ht _ => ⟨⟨_, rfl, by rw [ht]; exact hQ⟩, hS.F ht⟩) hS.2.2 hdg hk
theorem goLl {B : State → Prop} {P : Heap → Option Value → Heap → Prop} (hy : plainName y.cls = true) (hB : GB D a B) (hlen : (lg_sl av).length ≤ maxL)
    (body : GoG l D a y bytes maxL fr lo mc ms av A B (fun p s m args below meth c e R Q => ∀ (pc : Nat) (ls : Array Slot) (H : Heap) (locs : List Loc) (v : Int64), va_S A s.heap H locs → decode bytes pc = .ok (.lreturn, 1) → P s.heap (some (.long v)) H → W p l e R s m args below meth c H locs mc ms Q (F0 m pc ls [.long v]))) : KG l y bytes maxL (some .long) fr lo mc ms av A B P := by
  refine Met.ofW (cc := bytes) (maxL := maxL) (ret := some .long) hy rfl ?_
  intro p e s m args below meth c s₁ B' hml hv
  obtain ⟨rfl, hP⟩ := hv
  have C : Cx D a p s m av.toArray c bytes maxL y.cls := ⟨⟨B'.exec, B'.bytes, hml, findClass_of_methodNamed B'.named, fun w h => atoms_spec (ws := .code y bytes maxL (some .long) :: TB) B'.pre w (List.mem_cons_of_mem _ h)⟩, hB.1 _ hP⟩
  have hl := lv_entry av (n := maxL) hlen
  have hr := B'.returns
  have hk := B'.notSynchronized
  rw [lg_entry_eq]
  refine body p e s m _ below meth c _ _ _ rfl rfl rfl rfl C hP hl ?_
  intro pc ls H locs v hS hdg hQ
  exact W.lret C.1.1 C.1.2.1 hr (fun t ht _ => ⟨⟨_, rfl, by rw [ht]; exact hQ⟩, hS.F ht⟩) hS.2.2 hdg hk
/-- a call of a method that writes nothing that was there -/
theorem lc_0 (C0 : Cx D a p s m args c cc nL own) (hM : HL D a x e0 A L ξ s.heap H locs) (hAf : ∀ q, s.heap.size ≤ q → A q) {Lc : va_W} (is : List Nat) (hn9 : va_nd is = true) (hs9 : is.map (fun i => L[i]?) = Lc.map some) {P : Heap → Option Value → Heap → Prop} (hK : ∀ A9 : Nat → Prop, KG l y bytes maxL ret fr lo mc ms av A9 (BLa D a A9 Lc) P) (cw : CWS own idx y bytes maxL ret n) (hR : okR R maxL fr lo)
    (hst : st = av.reverse ++ rest) (hn : av.length = n) (hsz : ls.size = nL) (hW : (rest.map fun v => v.category).sum ≤ 8) (hc : cells + mc ≤ R.cells) (hs : slots + ms ≤ R.slots) (hdg : decode cc pc = .ok (.invokestatic idx, 3))
    (kk : ∀ H1 locs1 v, HL D a x e0 A L ξ s.heap H1 locs1 → P H v H1 → W p l e R s m args below meth c H1 locs1 (cells + mc) (slots + ms) Q (F0 m (pc + 3) ls (v.toList ++ rest))) : W p l e R s m args below meth c H locs cells slots Q (F0 m pc ls st) := by
  obtain ⟨h1, h2, h3, h4⟩ := hM
  have hMc : HL D a x e0 A Lc ξ s.heap H locs := HL.sub ⟨h1, h2, h3, h4⟩ is hn9 hs9
  have hrun := va_runS (mc := mc) (ms := ms) (R := R) (e := e) (below := below) (meth := meth) (H := H) (locs := locs) (cells := cells) (slots := slots) (g := F0 m pc ls st) (As := av) (rest := rest) C0.1 (hK (fun z => H.size ≤ z)) (cws_of cw C0.1.2.2.2.2 hR) ⟨fun z U g mk q => ⟨q.1, bla_good.2 U g mk z q.2⟩, fun U hU hW => ⟨rfl, va_K.moved hW.alike C0.2, fun q hq => by rw [hU] at hq; exact hq, by rw [hU]; exact hMc.1, hMc.2.1⟩⟩ rfl hn hsz hst (lv_room hW) hdg ⟨hc, hs⟩
  intro T hT X
  obtain ⟨v', st₀, t, T', L9, h0, X', hL, e1, e2, ⟨⟨v, hv, hP⟩, hF⟩, stp⟩ := hrun T hT X
  cases hv
  have hk := vx_keep (A1 := fun z => H.size ≤ z) (A0 := A) h0 e1 h3 (fun q g1 g2 => absurd g2 (by omega)) (fun q h => hAf q (Nat.le_trans h3.1 h)) hL hF
  obtain ⟨t2, a1, b1⟩ := kk T'.heap (locs ++ L9) v' ⟨h1.kept (fun k r hr => hk.2.1 _ (h1 k r hr).lt (by have := (h1 k r hr).lt; omega)), h2, hk.2.2, h4.mono (fun q h _ => h) (fun q _ hq => hk.2.1 q hq (by omega))⟩ (by rw [e1, ← h0]; exact hP) T' rfl X'
  exact ⟨t2, stp t2 a1, b1⟩
/-- .. that writes one array -/
theorem lc_1 (C0 : Cx D a p s m args c cc nL own) (hM : HL D a x e0 A L ξ s.heap H locs) (hAf : ∀ q, s.heap.size ≤ q → A q) {Lc : va_W} (is : List Nat) (hn9 : va_nd is = true) (hs9 : is.map (fun i => L[i]?) = Lc.map some) (k : Nat) {E : va_E} (hk9 : L[k]? = some (q, E)) (hA : A q) {P : Heap → Option Value → Heap → Prop} (hK : ∀ A9 : Nat → Prop, A9 q → KG l y bytes maxL ret fr lo mc ms av A9 (BLa D a A9 Lc) P) (cw : CWS own idx y bytes maxL ret n) (hR : okR R maxL fr lo)
    (hst : st = av.reverse ++ rest) (hn : av.length = n) (hsz : ls.size = nL) (hW : (rest.map fun v => v.category).sum ≤ 8) (hc : cells + mc ≤ R.cells) (hs : slots + ms ≤ R.slots) (hdg : decode cc pc = .ok (.invokestatic idx, 3))
    (kk : ∀ H1 locs1 v, (∀ E', va_at D vwCl (q, E') H1 → HL D a x e0 A (L.set k (q, E')) ξ s.heap H1 locs1) → P H v H1 → W p l e R s m args below meth c H1 locs1 (cells + mc) (slots + ms) Q (F0 m (pc + 3) ls (v.toList ++ rest))) : W p l e R s m args below meth c H locs cells slots Q (F0 m pc ls st) := by
  obtain ⟨h1, h2, h3, h4⟩ := hM
  have hMc : HL D a x e0 A Lc ξ s.heap H locs := HL.sub ⟨h1, h2, h3, h4⟩ is hn9 hs9
  have hrun := va_runS (mc := mc) (ms := ms) (R := R) (e := e) (below := below) (meth := meth) (H := H) (locs := locs) (cells := cells) (slots := slots) (g := F0 m pc ls st) (As := av) (rest := rest) C0.1 (hK (fun z => z = q ∨ H.size ≤ z) (Or.inl rfl)) (cws_of cw C0.1.2.2.2.2 hR) ⟨fun z U g mk q => ⟨q.1, bla_good.2 U g mk z q.2⟩, fun U hU hW => ⟨rfl, va_K.moved hW.alike C0.2, fun q hq => Or.inr (by rw [hU] at hq; exact hq), by rw [hU]; exact hMc.1, hMc.2.1⟩⟩ rfl hn hsz hst (lv_room hW) hdg ⟨hc, hs⟩
  intro T hT X
  obtain ⟨v', st₀, t, T', L9, h0, X', hL, e1, e2, ⟨⟨v, hv, hP⟩, hF⟩, stp⟩ := hrun T hT X
  cases hv
  have hk := vx_keep (A1 := fun z => z = q ∨ H.size ≤ z) (A0 := A) h0 e1 h3 (fun z g1 g2 => g2.elim (fun g => by rw [g]; exact hA) (fun g => absurd g (by omega))) (fun z (h : z = q ∨ H.size ≤ z) => h.elim (fun g => by rw [g]; exact hA) (fun g => hAf z (Nat.le_trans h3.1 g))) hL hF
  have hkp : ∀ z : Nat, z < H.size → z ≠ q → T'.heap[z]? = H[z]? := fun z g1 g2 => hk.2.1 z g1 (fun g => g.elim g2 (fun g => absurd g (by omega)))
  have hl := (List.getElem?_eq_some_iff.mp hk9).1
  have hset : ∀ E', va_at D vwCl (q, E') T'.heap → HL D a x e0 A (L.set k (q, E')) ξ s.heap T'.heap (locs ++ L9) := by
    intro E' hE'
    refine ⟨fun j r hj => ?_, h2.set hk9, hk.2.2, h4.mono (fun z hz _ => ⟨hz.1, fun j r hj => ?_⟩) (fun z hz hzl => hkp z hzl (hz.2 k _ hk9))⟩
    · by_cases hjk : j = k
      · subst hjk
        rw [List.getElem?_set_self hl] at hj
        cases hj
        exact hE'
      · rw [List.getElem?_set_ne (fun z => hjk z.symm)] at hj
        exact (h1 j r hj).kept (hkp _ (h1 j r hj).lt (fun g => hjk (h2.1 j k _ _ hj hk9 g)))
    · by_cases hjk : j = k
      · subst hjk
        rw [List.getElem?_set_self hl] at hj
        cases hj
        exact hz.2 j (q, E) hk9
      · rw [List.getElem?_set_ne (fun z => hjk z.symm)] at hj
        exact hz.2 j r hj
  obtain ⟨t2, a1, b1⟩ := kk T'.heap (locs ++ L9) v' hset (by rw [e1, ← h0]; exact hP) T' rfl X'
  exact ⟨t2, stp t2 a1, b1⟩
/-- a pure static method -/
theorem lc_S {v : Value} (C0 : Cx D a p s m args c cc nL own) (hK : K0 l y bytes maxL ret fr lo av (BK D a) v) (cw : CWS own idx y bytes maxL ret n) (hR : okR R maxL fr lo)
    (hst : st = av.reverse ++ rest) (hn : av.length = n) (hsz : ls.size = nL) (hW : (rest.map fun v => v.category).sum ≤ 8) (hc : cells ≤ R.cells) (hs : slots ≤ R.slots) (hdg : decode cc pc = .ok (.invokestatic idx, 3))
    (kk : W p l e R s m args below meth c H locs cells slots Q (F0 m (pc + 3) ls (v :: rest))) : W p l e R s m args below meth c H locs cells slots Q (F0 m pc ls st) :=
  cc_S C0 hK cw hR hst hn hsz hW hc hs hdg kk
theorem HL.ev (hM : HL D a x e0 A L ξ s.heap H locs) (hE : EV D a e0 A s s.heap) {U : State} (hW : s.WarmedH U.vm) (hU : U.heap = H) : EV D a e0 (AXf A L) U U.heap := by
  obtain ⟨h1, h2, h3, h4⟩ := hM
  refine (EV.at hE h3 hW hU).narrow (fun q hq => hq.1) (fun q hq => ⟨?_, fun k r hk g => ?_⟩)
  · exact hE.2.2.2.2.2.1 q (Nat.le_trans h3.1 (by rw [hU] at hq; exact hq))
  · have := (h1 k r hk).lt
    rw [hU] at hq
    omega
/-- the class answers, nothing changed -/
theorem lx_0 {α : Type} {vf : α → Option Value} {F : Except Nat α} {G : α → Prop} (C0 : Cx D a p s m args c cc nL own) (hM : HL D a x e0 A L (some σ) s.heap H locs) (hE : EV D a e0 A s s.heap) (hok : rc0 F G) (hK : ∀ B : Nat → Prop, KT0 l y bytes maxL ret fr lo mc ms (.ref x :: av) (BX D a x e0 B σ) vf F) (cw : CWV own RX10 idx y bytes maxL ret n) (hR : okR R maxL fr lo)
    (hst : st = av.reverse ++ .ref x :: rest) (hn : av.length = n) (hsz : ls.size = nL) (hW : (rest.map fun v => v.category).sum ≤ 8) (hc : cells + mc ≤ R.cells) (hs : slots + ms ≤ R.slots) (hdg : decode cc pc = .ok (.invokevirtual idx, 3))
    (kk : ∀ v, G v → W p l e R s m args below meth c H locs (cells + mc) (slots + ms) Q (F0 m (pc + 3) ls ((vf v).toList ++ rest))) : W p l e R s m args below meth c H locs cells slots Q (F0 m pc ls st) := by
  have hX : XP D a x e0 (AXf A L) σ H := hM.2.2.2
  have hXM : HX D a x e0 (AXf A L) σ H H [] := ⟨hX, va_S.rf⟩
  obtain ⟨v0, hF0, hG⟩ := hok
  have hrun := vx_runV (mc := mc) (ms := ms) (R := R) (e := e) (below := below) (meth := meth) (H := H) (locs := locs) (cells := cells) (slots := slots) (g := F0 m pc ls st) (As := av) (rest := rest) C0.1 (hK (AXf A L)) (cwv_of cw C0.1.2.2.2.2 hR) ⟨fun x U g mk q => ⟨q.1, bx_blind g mk x q.2⟩, xr_net C0 hXM, fun U hU hW => ⟨rfl, hM.ev hE hW hU, by rw [hU]; exact hX⟩⟩ rfl hn hsz hst (lv_room hW) hdg ⟨hc, hs⟩
  intro T hT X
  rcases hrun T hT X with ⟨v', st₀, t, T', L9, h0, X', hL, e1, e2, ⟨v, hF, hv, hh⟩, stp⟩ | ⟨q, st₀, t, T', L9, E, ce, h0, X', hL, e1, e2, ⟨k, hF, hE1, hz, hkp⟩, hce, hcv, hcl, stp⟩
  · cases hv
    rw [hF0] at hF
    cases hF
    obtain ⟨t2, a1, b1⟩ := kk v0 hG T' (by rw [e1, hh, h0]) (Stand.forget X' (fun q h => (hL q h).elim))
    exact ⟨t2, stp t2 a1, b1⟩
  · rw [hF0] at hF
    cases hF
/-- .. and its memory is another one -/
theorem lx_m {α : Type} {vf : α → Option Value} {F : Nat → Except Nat (α × XS)} {G : α → XS → Prop} (C0 : Cx D a p s m args c cc nL own) (hM : HL D a x e0 A L (some σ) s.heap H locs) (hE : EV D a e0 A s s.heap) (hok : rcl F σ G) (hK : ∀ B : Nat → Prop, KTm l D a x e0 B y bytes maxL ret fr lo mc ms (.ref x :: av) σ vf F) (cw : CWV own RX10 idx y bytes maxL ret n) (hR : okR R maxL fr lo)
    (hst : st = av.reverse ++ .ref x :: rest) (hn : av.length = n) (hsz : ls.size = nL) (hW : (rest.map fun v => v.category).sum ≤ 8) (hc : cells + mc ≤ R.cells) (hs : slots + ms ≤ R.slots) (hdg : decode cc pc = .ok (.invokevirtual idx, 3))
    (kk : ∀ v σ' H1 locs1, G v σ' → HL D a x e0 A L (some σ') s.heap H1 locs1 → W p l e R s m args below meth c H1 locs1 (cells + mc) (slots + ms) Q (F0 m (pc + 3) ls ((vf v).toList ++ rest))) : W p l e R s m args below meth c H locs cells slots Q (F0 m pc ls st) := by
  have hX : XP D a x e0 (AXf A L) σ H := hM.2.2.2
  have hXM : HX D a x e0 (AXf A L) σ H H [] := ⟨hX, va_S.rf⟩
  obtain ⟨v0, σ0, hF0, hG⟩ := hok H.size (xP_fresh hX) (by have := xP_pos hX; omega)
  have hrun := vx_runV (mc := mc) (ms := ms) (R := R) (e := e) (below := below) (meth := meth) (H := H) (locs := locs) (cells := cells) (slots := slots) (g := F0 m pc ls st) (As := av) (rest := rest) C0.1 (hK (AXf A L)) (cwv_of cw C0.1.2.2.2.2 hR) ⟨fun x U g mk q => ⟨q.1, bx_blind g mk x q.2⟩, xr_net C0 hXM, fun U hU hW => ⟨rfl, hM.ev hE hW hU, by rw [hU]; exact hX⟩⟩ rfl hn hsz hst (lv_room hW) hdg ⟨hc, hs⟩
  intro T hT X
  rcases hrun T hT X with ⟨v', st₀, t, T', L9, h0, X', hL, e1, e2, ⟨⟨v, τ, hF, hv, hP⟩, hFr⟩, stp⟩ | ⟨q, st₀, t, T', L9, E, ce, h0, X', hL, e1, e2, ⟨k, hF, hE1, hz, hkp⟩, hce, hcv, hcl, stp⟩
  · cases hv
    rw [h0, hF0] at hF
    cases hF
    have hk := vx_keep (A1 := AXf A L) (A0 := A) h0 e1 hM.2.2.1 (fun z _ h => h.1) (fun z h => h.1) hL hFr
    obtain ⟨t2, a1, b1⟩ := kk v0 σ0 T'.heap (locs ++ L9) hG ⟨hM.1.kept (fun k r hr => hk.2.1 _ (hM.1 k r hr).lt (fun g => g.2 k r hr rfl)), hM.2.1, hk.2.2, by rw [e1]; exact hP⟩ T' rfl X'
    exact ⟨t2, stp t2 a1, b1⟩
  · have hF9 := exE_er hF
    rw [h0, hF0] at hF9
    cases hF9
end LRULES
