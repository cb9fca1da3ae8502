/-! ===== the law's own steps ===== -/
section LAW1
variable {p : Program} {l : Launch} {e : Env} {R : Room} {s : State} {m : MethodId} {args : Array Value} {below : List Frame} {meth : Method} {c : Code} {H : Heap} {locs : List Loc} {cells slots : Nat} {Q : State → Prop} {D : va_G} {a : Nat → ClassId} {x e0 mo oo : Nat} {σ : XS} {μ μ' : MS} {f : Nat → Int64} {cc : ByteArray} {nL : Nat} {pc : Nat} {ls : Array Slot} {rest st : List Value} {idx : Nat} {y : MethodName} {bytes : ByteArray} {maxL n fr lo mc ms : Nat} {ret : Option FieldType} {av : List Value} {hh : List (Nat × Nat × Nat × Nat)}
def AW (x mo oo : Nat) : Nat → Prop := fun q => x ≤ q ∧ ¬ AM mo q ∧ q ≠ oo
theorem EV.narrow {A B : Nat → Prop} {U : State} (h : EV D a e0 A U H) (hAB : ∀ q, B q → A q) (hB : ∀ q, H.size ≤ q → B q) : EV D a e0 B U H := by
  obtain ⟨h1, h2, h3, h4, h5, h6, h7, h8, ⟨f, h9⟩, h10⟩ := h
  refine ⟨h1, h2, h3, h4.narrow hAB, h5.narrow hAB, hB, h7, ?_, ⟨f, h9.narrow hAB⟩, h10⟩
  obtain ⟨cf, kf, fi, g, ad, cell, g1, g2, g3, g4, g5, g6, g7, g8⟩ := h8
  exact ⟨cf, kf, fi, g, ad, cell, g1, g2, g3, g4, g5, g6, g7, fun z => g8 (hAB _ z)⟩
/-- where the law stands between two calls -/
def LI (s : State) (D : va_G) (a : Nat → ClassId) (x e0 mo oo : Nat) (σ : XS) (μ : MS) (f : Nat → Int64) (H : Heap) (locs : List Loc) : Prop :=
  XP D a x e0 (AW x mo oo) σ H ∧ va_P D vwCl (mW a mo μ) H ∧ va_at D vwCl (oo, .inl (a 1, 1, .inr (.inl f))) H ∧ va_S (fun q => x ≤ q) s.heap H locs
/-- what holds all along the law -/
def LC (s : State) (D : va_G) (a : Nat → ClassId) (x e0 mo oo : Nat) : Prop := x = s.heap.size ∧ x < mo ∧ mo + 45 < oo ∧ EV D a e0 (fun q => x ≤ q) s s.heap ∧ ∀ r ∈ NCW, va_Nc r.1 r.2 s
theorem LC.ev (h : LC s D a x e0 mo oo) (hL : LI s D a x e0 mo oo σ μ f H locs) {U : State} (hW : s.WarmedH U.vm) (hU : U.heap = H) : EV D a e0 (AW x mo oo) U U.heap := by
  obtain ⟨h1, h2, h3, h4, -⟩ := h
  refine (EV.at h4 hL.2.2.2 hW hU).narrow (fun q hq => hq.1) (fun q hq => ?_)
  have ho := hL.2.2.1.lt
  rw [hU] at hq
  simp only at ho
  refine ⟨?_, ?_, ?_⟩
  · show x ≤ q; omega
  · unfold AM; omega
  · show q ≠ oo; omega
theorem mW_AM {k : Nat} {q : Nat × va_E} (h : (mW a mo μ)[k]? = some q) : AM mo q.1 := (mW_D a mo μ).2 k q h
def CWH (idx : Nat) (y : MethodName) (bytes : ByteArray) (maxL : Nat) (hh : List (Nat × Nat × Nat × Nat)) (n : Nat) : Prop :=
  Cond.methodLink RL idx y ∈ TB ∧ Cond.static y ∈ TB ∧ Cond.initialized y.cls ∈ TB ∧ Cond.codeWith y bytes maxL (some .int) hh ∈ TB ∧ hdY y n
theorem cl_H {α : Type} {F : Nat → Except Nat (α × XS)} {cd : Nat → Int32} {cv : α → (Nat → Int64) → Nat → Int64} (C0 : Cx D a p s m args c cc nL RL) (hC : LC s D a x e0 mo oo) (hL : LI s D a x e0 mo oo σ μ f H locs) (hK : KH l y bytes maxL hh fr lo mc ms av (fun z => AW x mo oo z ∨ z = oo) (BH D a x e0 (AW x mo oo) oo f σ) (PH D a x e0 (AW x mo oo) oo cd cv F f σ)) (cw : CWH idx y bytes maxL hh n) (hRm : okR R maxL fr lo)
    (hst : st = av.reverse ++ rest) (hn : av.length = n) (hsz : ls.size = nL) (hW : (rest.map fun v => v.category).sum ≤ 8) (hc : cells + mc ≤ R.cells) (hs : slots + ms ≤ R.slots) (hdg : decode cc pc = .ok (.invokestatic idx, 3))
    (kk : ∀ H1 locs1 N, xk σ N = 0 → N ≠ 0 → LI s D a x e0 mo oo (hR cd cv (F N) f σ).2.2 μ (hR cd cv (F N) f σ).2.1 H1 locs1 → W p l e R s m args below meth c H1 locs1 (cells + mc) (slots + ms) Q (F0 m (pc + 3) ls (.int (hR cd cv (F N) f σ).1 :: rest))) : W p l e R s m args below meth c H locs cells slots Q (F0 m pc ls st) := by
  obtain ⟨w1, w2, w3, w4, w5⟩ := cw
  have ht := C0.1.2.2.2.2
  have cw' : vx_CSW R s args RL idx y bytes maxL (some .int) hh (.codeWith y bytes maxL (some .int) hh :: TB) { frames := fr, cells := mc, slots := ms, locals := lo } mc ms n := vx_cwSW n ht (tb_cons w1 (tb_cons w2 (tb_cons w3 (tb_cons w4 tb_self)))) rfl rfl rfl w5 hRm
  obtain ⟨l1, l2, l3, l4⟩ := hL
  have hoA : ¬ AW x mo oo oo := fun h => h.2.2 rfl
  have hrun := vx_runSW (mc := mc) (ms := ms) (R := R) (e := e) (below := below) (meth := meth) (H := H) (locs := locs) (cells := cells) (slots := slots) (g := F0 m pc ls st) (As := av) (rest := rest) C0.1 hK cw' ⟨fun z U g mk q => ⟨q.1, bx_blind g mk z q.2.1, q.2.2⟩, fun U hU hW => ⟨rfl, ⟨hC.ev ⟨l1, l2, l3, l4⟩ hW hU, by rw [hU]; exact l1⟩, by rw [hU]; exact l3, hoA, fun r hr => (hC.2.2.2.2 r hr).moved hW.alike⟩⟩ rfl hn hsz hst (lv_room hW) hdg ⟨hc, hs⟩
  intro T hT X
  obtain ⟨v', st₀, t, T', L, h0, X', hLL, e1, e2, ⟨⟨v, hv, hP⟩, hF⟩, stp⟩ := hrun T hT X
  cases hv
  rw [h0, ← e1] at hP
  obtain ⟨p1, p2, p3⟩ := hP
  rw [p1] at stp
  have hx0 := hC.1
  have hAx : ∀ q, (AW x mo oo q ∨ q = oo) → x ≤ q := fun q h => h.elim (fun h => h.1) (fun h => by have := hC.2.1; have := hC.2.2.1; omega)
  have hkeep : ∀ q : Nat, q < H.size → ¬ (AW x mo oo q ∨ q = oo) → T'.heap[q]? = H[q]? := fun q h1 h2 => by rw [e1, ← h0]; exact hF.2 q (by rw [h0]; exact h1) h2
  have hLI : LI s D a x e0 mo oo (hR cd cv (F H.size) f σ).2.2 μ (hR cd cv (F H.size) f σ).2.1 T'.heap (locs ++ L) := by
    refine ⟨p2, l2.kept (fun k q hk => hkeep _ ((l2 k q hk).lt) (fun h => ?_)), p3, ?_, ?_, ?_⟩
    · have h9 := mW_AM hk
      rcases h with h | h
      · exact h.2.1 h9
      · have := hC.2.2.1; unfold AM at h9; omega
    · exact Nat.le_trans l4.1 (by rw [e1, ← h0]; exact hF.1)
    · intro q h1 h2
      rw [hkeep q (Nat.lt_of_lt_of_le h1 l4.1) (fun h => h2 (hAx q h))]
      exact l4.2.1 q h1 h2
    · intro z hz
      rcases List.mem_append.mp hz with h | h
      · exact l4.2.2 z h
      · exact hAx _ (hLL z h)
  obtain ⟨t2, a1, b1⟩ := kk T'.heap (locs ++ L) H.size (xP_fresh l1) (by have := xP_pos l1; omega) hLI T' rfl X'
  exact ⟨t2, stp t2 a1, b1⟩
/-- a call of the reference's -/
theorem cl_M {v : Option Value} (C0 : Cx D a p s m args c cc nL RL) (hC : LC s D a x e0 mo oo) (hL : LI s D a x e0 mo oo σ μ f H locs) (hK : KM l D a mo y bytes maxL ret fr lo av μ v μ') (cw : CWV RL RX11 idx y bytes maxL ret n) (hR : okR R maxL fr lo)
    (hst : st = av.reverse ++ .ref mo :: rest) (hn : av.length = n) (hsz : ls.size = nL) (hW : (rest.map fun v => v.category).sum ≤ 8) (hc : cells ≤ R.cells) (hs : slots ≤ R.slots) (hdg : decode cc pc = .ok (.invokevirtual idx, 3))
    (kk : ∀ H1 locs1, LI s D a x e0 mo oo σ μ' f H1 locs1 → W p l e R s m args below meth c H1 locs1 cells slots Q (F0 m (pc + 3) ls (v.toList ++ rest))) : W p l e R s m args below meth c H locs cells slots Q (F0 m pc ls st) := by
  obtain ⟨l1, l2, l3, l4⟩ := hL
  have hrc : ∃ cellB : Cell, H[mo]? = some cellB ∧ cellB.vm.isStatics = false ∧ s.vm.findClass RX11 = some cellB.cls := va_recv (D := D) (cl := vwCl) (tys := tyL a) (q := (RX11, TX11, 67)) (ws := mW a mo μ) (ci := 12) (q0 := 0) C0.2 l2 rfl rfl
  have hrun := va_runV (mc := 0) (ms := 0) (R := R) (e := e) (below := below) (meth := meth) (H := H) (locs := locs) (cells := cells) (slots := slots) (g := F0 m pc ls st) (As := av) (rest := rest) (b := mo) C0.1 hK (cwv_of cw C0.1.2.2.2.2 hR) ⟨fun x U g mk q => ⟨q.1, bk_blind g mk x q.2.1, q.2.2⟩, hrc, fun U hU hW => ⟨rfl, va_K.moved hW.alike C0.2, by rw [hU]; exact l2⟩⟩ rfl hn hsz hst (lv_room hW) hdg ⟨hc, hs⟩
  intro T hT X
  obtain ⟨v', st₀, t, T', L, h0, X', hLL, e1, e2, ⟨⟨hv, hP⟩, hF⟩, stp⟩ := hrun T hT X
  cases hv
  have hkeep : ∀ q : Nat, q < H.size → ¬ AM mo q → T'.heap[q]? = H[q]? := fun q h1 h2 => by rw [e1, ← h0]; exact hF.2 q (by rw [h0]; exact h1) h2
  have hAx : ∀ q, AM mo q → x ≤ q := fun q h => by have := hC.2.1; unfold AM at h; omega
  have hLI : LI s D a x e0 mo oo σ μ' f T'.heap (locs ++ L) := by
    refine ⟨?_, by rw [e1]; exact hP, l3.kept (hkeep oo l3.lt (fun h => by have := hC.2.2.1; unfold AM at h; omega)), ?_, ?_, ?_⟩
    · obtain ⟨Mp, ow, hM, hs⟩ := l1
      exact ⟨Mp, ow, fun z en hz => ⟨(hM z en hz).1.kept (hkeep z (hM z en hz).1.lt (hM z en hz).2.1.2.1), (hM z en hz).2⟩, hs⟩
    · exact Nat.le_trans l4.1 (by rw [e1, ← h0]; exact hF.1)
    · intro q h1 h2
      rw [hkeep q (Nat.lt_of_lt_of_le h1 l4.1) (fun h => h2 (hAx q h))]
      exact l4.2.1 q h1 h2
    · intro z hz
      rcases List.mem_append.mp hz with h | h
      · exact l4.2.2 z h
      · exact hAx _ (hLL z h)
  obtain ⟨t2, a1, b1⟩ := kk T'.heap (locs ++ L) hLI T' rfl X'
  exact ⟨t2, stp t2 a1, b1⟩
/-- .. that changes nothing -/
theorem cl_R {v : Value} (C0 : Cx D a p s m args c cc nL RL) (hL : LI s D a x e0 mo oo σ μ f H locs) (hK : K0 l y bytes maxL ret fr lo (.ref mo :: av) (BM D a mo μ) v) (cw : CWV RL RX11 idx y bytes maxL ret n) (hR : okR R maxL fr lo)
    (hst : st = av.reverse ++ .ref mo :: rest) (hn : av.length = n) (hsz : ls.size = nL) (hW : (rest.map fun v => v.category).sum ≤ 8) (hc : cells ≤ R.cells) (hs : slots ≤ R.slots) (hdg : decode cc pc = .ok (.invokevirtual idx, 3))
    (kk : W p l e R s m args below meth c H locs cells slots Q (F0 m (pc + 3) ls (v :: rest))) : W p l e R s m args below meth c H locs cells slots Q (F0 m pc ls st) :=
  call0V C0 hK cw hR (va_recv (D := D) (cl := vwCl) (tys := tyL a) (q := (RX11, TX11, 67)) (ws := mW a mo μ) (ci := 12) (q0 := 0) C0.2 hL.2.1 rfl rfl) (fun U g mk x q => ⟨bk_blind g mk x q.1, q.2⟩) (fun U hU hW => ⟨va_K.moved hW.alike C0.2, by rw [hU]; exact hL.2.1⟩) hst hn hsz hW hc hs hdg kk
/-- the answer is read -/
theorem cl_out (C0 : Cx D a p s m args c cc nL RL) (hL : LI s D a x e0 mo oo σ μ f H locs) (hdg : decode cc pc = .ok (.laload, 1)) (kk : W p l e R s m args below meth c H locs cells slots Q (F0 m (pc + 1) ls (.long (f 0) :: rest))) : W p l e R s m args below meth c H locs cells slots Q (F0 m pc ls (.int 0 :: .ref oo :: rest)) :=
  va_lald (D := D) (cl := vwCl) (tys := tyL a) C0.1.1 C0.1.2.1 C0.2 (va_at_single hL.2.2.1) 0 1 rfl rfl (by show ¬ ((0 : Int32) < 0 ∨ 1 ≤ (0 : Int32).toNatClampNeg); decide) hdg kk
end LAW1
