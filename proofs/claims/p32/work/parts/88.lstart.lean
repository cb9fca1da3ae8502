/-! ===== the law from its entry ===== -/
theorem cwi_80 : CWI RL 80 yX10_init cX10_init 2 0 := ⟨q_52, q_53, q_26, q_54, rfl, ⟨by decide +kernel, by decide +kernel, by decide +kernel⟩⟩
section LAW3
variable {p : Program} {l : Launch} {e : Env} {R : Room} {s : State} {m : MethodId} {args : Array Value} {below : List Frame} {meth : Method} {c : Code} {H : Heap} {locs : List Loc} {cells slots : Nat} {Q : State → Prop} {D : va_G} {a : Nat → ClassId} {e0 : Nat} {A A0 : Nat → Prop} {cc : ByteArray} {nL : Nat} {pc : Nat} {ls : Array Slot} {rest st : List Value} {own : String} {idx : Nat} {y : MethodName} {bytes : ByteArray} {maxL n fr lo mc ms : Nat} {av : List Value} {b : Nat}
theorem cg_I2 {B : State → Prop} {P : Heap → Option Value → Heap → Prop} (C0 : Cx D a p s m args c cc nL own) (hS : va_S A0 s.heap H locs) (hA : ∀ q, A q → A0 q) (hK : KG l y bytes maxL none fr lo mc ms (.ref b :: av) A B P) (hG : GB D a B) (cw : CWI own idx y bytes maxL n) (hR : okR R maxL fr lo) (hB : ∀ U : State, U.heap = H → s.WarmedH U.vm → B U)
    (hst : st = av.reverse ++ .ref b :: rest) (hn : av.length = n) (hsz : ls.size = nL) (hW : (rest.map fun v => v.category).sum ≤ 8) (hc : cells + mc ≤ R.cells) (hs : slots + ms ≤ R.slots) (hdg : decode cc pc = .ok (.invokespecial idx, 3))
    (kk : ∀ H1 locs1 v, va_S A0 s.heap H1 locs1 → (∀ q, q < H.size → ¬ A q → H1[q]? = H[q]?) → P H v H1 → W p l e R s m args below meth c H1 locs1 (cells + mc) (slots + ms) Q (F0 m (pc + 3) ls (v.toList ++ rest))) : W p l e R s m args below meth c H locs cells slots Q (F0 m pc ls st) := by
  have hrun := va_runI (mc := mc) (ms := ms) (R := R) (e := e) (below := below) (meth := meth) (H := H) (locs := locs) (cells := cells) (slots := slots) (g := F0 m pc ls st) (As := av) (rest := rest) (b := b) C0.1 hK (cwi_of cw C0.1.2.2.2.2 hR) ⟨fun z U g mk q => ⟨q.1, hG.2 U g mk z q.2⟩, fun U hU hW => ⟨rfl, hB U hU hW⟩⟩ rfl hn hsz hst (lv_room hW) hdg ⟨hc, hs⟩
  intro T hT X
  obtain ⟨v', st₀, t, T', L, h0, X', hL, e1, e2, ⟨⟨v, hv, hP⟩, hF⟩, stp⟩ := hrun T hT X
  cases hv
  have hk := vx_keep (A1 := A) (A0 := A0) h0 e1 hS (fun q _ h => hA q h) (fun q h => hA q h) hL hF
  obtain ⟨t2, a1, b1⟩ := kk T'.heap (locs ++ L) v' hk.2.2 hk.2.1 (by rw [e1, ← h0]; exact hP) T' rfl X'
  exact ⟨t2, stp t2 a1, b1⟩
end LAW3

def μL : MS := (fun _ _ => 0, fun _ _ => 0)
set_option maxHeartbeats 4000000 in
set_option maxRecDepth 1000000 in
theorem law_go {p : Program} {l : Launch} (hfl : l.stackTraces = false) {e : Env} {R : Room} {s : State} {m : MethodId} {args : Array Value} {below : List Frame} {meth : Method} {c : Code} {Q : State → Prop} {D : va_G} {a : Nat → ClassId} {x e0 b N : Nat} {xs : Nat → Int32} {ls : Array Slot} (hxs : x = s.heap.size) (C : Cx D a p s m args c cL_law 17 RL) (hE : EV D a e0 (fun q => x ≤ q) s s.heap) (hAO : va_AO "FireNet$Rule" s) (hX : va_X b N xs s s.heap) (hb0 : b < s.heap.size) (hRf : R.frames = 12) (hRl : R.locals = 444) (hRc : 502373 ≤ R.cells) (hRs : 2062145 ≤ R.slots) (hl : lv_has ls 17 [(0, .ref b)]) (hw : ∀ σ, 0 < x → XI x 60 σ → w_L_law μL σ x (fun v => v = 1)) (fin : ∀ (pc : Nat) (ls : Array Slot) (H : Heap) (locs : List Loc) (v : Int32), va_S (fun q => x ≤ q) s.heap H locs → decode cL_law pc = .ok (.ireturn, 1) → v = 1 → W p l e R s m args below meth c H locs R.cells R.slots Q (F0 m pc ls [.int v])) : W p l e R s m args below meth c s.heap [] 0 0 Q (F0 m 0 ls []) := by
  have hx := C.1.1
  have hb := C.1.2.1
  have hts := C.1.2.2.2.2
  have hbA : ¬ x ≤ b := by omega
  have hx0 : 0 < x := by omega
  refine wx_new (D := D) (cl := vwCl) (tys := tyL a) (ci := 11) (C := RX10) (T := TX10) (N := 14) (fs := xB) hx hb hts tb_X10 tyX10 tyX10_ok C.1.2.2.2.1 (hts _ q_50) (hts _ q_51) (hts _ q_26) C.2 rfl ?_ (Nat.le_trans (Nat.le_of_ble_eq_true rfl) hRc) (Nat.le_trans (Nat.le_of_ble_eq_true rfl) hRs) dL_law_0 (fun H1 e1 z1 o1 => ?_)
  · intro j hj
    rcases (show j = 0 ∨ j = 1 ∨ j = 2 ∨ j = 3 ∨ j = 4 ∨ j = 5 ∨ j = 6 ∨ j = 7 ∨ j = 8 ∨ j = 9 ∨ j = 10 ∨ j = 11 ∨ j = 12 ∨ j = 13 by omega) with rfl | rfl | rfl | rfl | rfl | rfl | rfl | rfl | rfl | rfl | rfl | rfl | rfl | rfl <;> rfl
  rw [← hxs] at e1 ⊢
  have hS1 : va_S (fun q => x ≤ q) s.heap H1 [] := ⟨by rw [z1]; omega, fun q h1 h2 => o1 q h1, fun _ h => nomatch h⟩
  refine lv_dup hx hb dL_law_3 rfl ?_
  refine cg_I2 (A := fun z => x ≤ z) (av := []) (b := x) C hS1 (fun _ h => h) (k_X10_init l D a x e0) bn_good cwi_80 (okR_of hRf hRl (Nat.le_of_ble_eq_true rfl) (Nat.le_of_ble_eq_true rfl)) (fun U hU hW => ⟨EV.at hE hS1 hW hU, va_AO.moved hW.alike hAO, by rw [hU]; exact ⟨by rw [z1, ← hxs], e1, rfl, fun j hj => absurd hj (Nat.not_lt_zero _)⟩⟩) rfl rfl hl.1 (Nat.le_of_ble_eq_true rfl) (Nat.le_trans (Nat.le_of_ble_eq_true rfl) hRc) (Nat.le_trans (Nat.le_of_ble_eq_true rfl) hRs) dL_law_4 (fun H2 locs2 v hS2 _ hP2 => ?_)
  obtain ⟨rfl, σ, hXP, hXI⟩ := hP2
  refine lv_astore_n (lv' := [(1, .ref x), (0, .ref b)]) hx hb dL_law_7 rfl hl (by decide) rfl (fun ls hl => ?_)
  refine W.widen (k := 300) (n := 27000) (Nat.le_of_ble_eq_true rfl) (Nat.le_of_ble_eq_true rfl) ?_
  exact k_L_law hfl hRf hRl hRc hRs C hE hX hb0 hbA μL σ (fun v => v = 1) (hw σ hx0 hXI) fin ⟨fun k r h => by simp at h, ⟨fun i j r q h => by simp at h, fun k r h => by simp at h⟩, hS2, XO.mono (ξ := some σ) (B := fun z => x ≤ z) hXP (fun q h _ => ⟨h, fun k r h => by simp at h⟩) (fun _ _ _ => rfl)⟩ hl
