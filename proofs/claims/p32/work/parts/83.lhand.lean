/-! ===== the law's small methods ===== -/
/-- what n rounds may make yet -/
def bud (n k : Nat) : Nat := n * k
theorem bud_s {c n k B : Nat} (h : c + bud (n + 1) k ≤ B) : c + (bud n k + k) ≤ B := by
  have e : bud (n + 1) k = bud n k + k := Nat.succ_mul n k
  rw [e] at h
  exact h
theorem bud_e {c n k t B : Nat} (h : c + t ≤ B) (ht : n * k = t) : c + bud n k ≤ B := by
  have e : bud n k = t := ht
  rw [e]
  exact h
theorem lit_in {i : Int32} {n : Nat} (h1 : ¬ i < 0) (h2 : i.toNatClampNeg < n) : vp_in i n := fun h => h.elim h1 (fun h => absurd h (by omega))
/-- a call of one of the law's own methods, by what it is known to answer -/
def wcal {β : Type} (w : (β → Prop) → Prop) (G : β → Prop) : Prop := ∃ S : β → Prop, w S ∧ ∀ v, S v → G v
def wcal2 {β γ : Type} (w : (β → γ → Prop) → Prop) (G : β → γ → Prop) : Prop := ∃ S : β → γ → Prop, w S ∧ ∀ v u, S v u → G v u
def f_L_low (v n : Int32) : Int32 := ((v &&& 2147483647) - (v &&& 2147483647) / n * n)
theorem k_L_low (l : Launch) (D : va_G) (a : Nat → ClassId) (v n : Int32) (h : ¬ n = 0) : K0 l yL_low cL_low 2 (some .int) 0 0 [.int v, .int n] (BK D a) (.int (f_L_low v n)) := by
  refine go0i (D := D) (a := a) (by decide +kernel) (fun _ h => h) (Nat.le_of_ble_eq_true rfl) ?_
  intro p e s m args below meth c ls R Q hRf hRl C hl hB
  obtain ⟨hB, ret⟩ := hB
  have hl : lv_has ls 2 [(0, .int v), (1, .int n)] := hl
  have hx := C.1.1
  have hb := C.1.2.1
  have hts := C.1.2.2.2.2
  have hown := C.1.2.2.2.1
  refine lv_iload_n hx hb dL_low_0 rfl (lv_at hl 0 rfl) ?_
  refine lv_ldc (v := 2147483647) hx hb hown (hts _ q_836) dL_low_1 ?_
  refine lv_iand hx hb dL_low_3 ?_
  refine lv_iload_n hx hb dL_low_4 rfl (lv_at hl 1 rfl) ?_
  refine lv_irem hx hb dL_low_5 h ?_
  exact ret _ _ _ dL_low_6 rfl
def f_L_down (v b : Int64) : Int64 := if 0 ≤ lg_cmp (v - v / b * b) 0 then v / b else v / b - 1
theorem k_L_down (l : Launch) (D : va_G) (a : Nat → ClassId) (v b : Int64) (h : ¬ b = 0) : K0 l yL_down cL_down 6 (some .long) 0 0 [.long v, .long b] (BK D a) (.long (f_L_down v b)) := by
  refine go0l (D := D) (a := a) (by decide +kernel) (fun _ h => h) (Nat.le_of_ble_eq_true rfl) ?_
  intro p e s m args below meth c ls R Q hRf hRl C hl hB
  obtain ⟨hB, ret⟩ := hB
  have hl : lv_has ls 6 [(0, .long v), (2, .long b)] := hl
  have hx := C.1.1
  have hb := C.1.2.1
  refine lv_lload_n hx hb dL_down_0 rfl (lv_at hl 0 rfl) ?_
  refine lv_lload_n hx hb dL_down_1 rfl (lv_at hl 1 rfl) ?_
  refine lv_ldiv hx hb dL_down_2 h ?_
  refine lv_lstore (lv' := [(4, .long (v / b)), (0, .long v), (2, .long b)]) hx hb dL_down_3 hl (by decide) rfl (fun ls hl => ?_)
  refine lv_lload_n hx hb dL_down_5 rfl (lv_at hl 1 rfl) ?_
  refine lv_lload_n hx hb dL_down_6 rfl (lv_at hl 2 rfl) ?_
  refine lv_lrem hx hb dL_down_7 h ?_
  refine lv_lconst (v := 0) hx hb dL_down_8 (by decide) ?_
  refine W.lcmp hx hb dL_down_9 ?_
  refine lv_if_ge (tgt := 20) hx hb dL_down_10 (by decide) (fun c1 => ?_) (fun c1 => ?_)
  · refine lv_lload hx hb dL_down_20 (lv_at hl 0 rfl) ?_
    exact ret _ _ _ dL_down_22 (if_pos c1)
  · refine lv_lload hx hb dL_down_13 (lv_at hl 0 rfl) ?_
    refine lv_lconst (v := 1) hx hb dL_down_15 (by decide) ?_
    refine lv_lsub hx hb dL_down_16 ?_
    refine lv_goto (tgt := 22) hx hb dL_down_17 (by decide) ?_
    exact ret _ _ _ dL_down_22 (if_neg c1)
def f_L_cell (N : Nat) (xs : Nat → Int32) (k : Int32) : Int32 := if Int32.ofNat N ≤ k then 1000308305 * (k + 1) + 751363479 else xs (ix k)
theorem k_L_cell (l : Launch) (D : va_G) (a : Nat → ClassId) (b N : Nat) (xs : Nat → Int32) (k : Int32) (h0 : ¬ k < 0) : K0 l yL_cell cL_cell 2 (some .int) 0 0 [.ref b, .int k] (fun U => va_K D vwCl (tyL a) U ∧ va_X b N xs U U.heap) (.int (f_L_cell N xs k)) := by
  refine go0i (D := D) (a := a) (by decide +kernel) (fun _ h => h.1) (Nat.le_of_ble_eq_true rfl) ?_
  intro p e s m args below meth c ls R Q hRf hRl C hl hB
  obtain ⟨⟨hK, hX⟩, ret⟩ := hB
  have hl : lv_has ls 2 [(0, .ref b), (1, .int k)] := hl
  have hx := C.1.1
  have hb := C.1.2.1
  have hts := C.1.2.2.2.2
  have hown := C.1.2.2.2.1
  have hbl : b < s.heap.size := by
    obtain ⟨scr, h1, -⟩ := hX
    exact (Array.getElem?_eq_some_iff.mp h1).1
  refine lv_iload_n hx hb dL_cell_0 rfl (lv_at hl 1 rfl) ?_
  refine lv_aload_n hx hb dL_cell_1 rfl (lv_at hl 0 rfl) ?_
  refine va_slen (A := fun _ => False) hx hb hX hbl (fun h => h) va_S.rf dL_cell_2 ?_
  refine lv_icmp_ge (tgt := 12) hx hb dL_cell_3 (by decide) (fun c1 => ?_) (fun c1 => ?_)
  · refine lv_ldc (v := 1000308305) hx hb hown (hts _ q_831) dL_cell_12 ?_
    refine lv_iload_n hx hb dL_cell_14 rfl (lv_at hl 1 rfl) ?_
    refine lv_iconst (v := 1) hx hb dL_cell_15 (by decide) ?_
    refine lv_iadd hx hb dL_cell_16 ?_
    refine lv_imul hx hb dL_cell_17 ?_
    refine lv_ldc (v := 751363479) hx hb hown (hts _ q_832) dL_cell_18 ?_
    refine lv_iadd hx hb dL_cell_20 ?_
    exact ret _ _ _ dL_cell_21 (if_pos c1)
  · refine lv_aload_n hx hb dL_cell_6 rfl (lv_at hl 0 rfl) ?_
    refine lv_iload_n hx hb dL_cell_7 rfl (lv_at hl 1 rfl) ?_
    refine va_sld (A := fun _ => False) hx hb hX hbl (fun h => h) va_S.rf (i := k) ?_ dL_cell_8 ?_
    · intro h9
      rcases h9 with h9 | h9
      · exact h0 h9
      · apply c1
        obtain ⟨j, hj, rfl⟩ := nI_of h0
        rw [nI_clamp hj] at h9
        rw [Int32.le_iff_toInt_le, nI_toInt hj]
        have e1 : (Int32.ofNat N).toInt = (N : Int) := nI_toInt (by omega)
        rw [e1]
        omega
    · refine lv_goto (tgt := 21) hx hb dL_cell_9 (by decide) ?_
      exact ret _ _ _ dL_cell_21 (if_neg c1)
/-- what 'right' stands on -/
def BRa (D : va_G) (a : Nat → ClassId) (x e0 : Nat) (A : Nat → Prop) (σ : XS) (L : va_W) (U : State) : Prop := EV D a e0 A U U.heap ∧ XP D a x e0 A σ U.heap ∧ va_P D vwCl L U.heap ∧ va_D (fun _ => True) L
theorem bra_good {D : va_G} {a : Nat → ClassId} {x e0 : Nat} {A : Nat → Prop} {σ : XS} {L : va_W} : GB D a (BRa D a x e0 A σ L) := ⟨fun U h => h.1.1, fun U g mk z h => ⟨h.1.calling g mk z, h.2⟩⟩
section LR
variable {p : Program} {l : Launch} {e : Env} {R : Room} {s : State} {m : MethodId} {args : Array Value} {below : List Frame} {meth : Method} {c : Code} {H H0 H1 : Heap} {locs : List Loc} {cells slots : Nat} {Q : State → Prop} {D : va_G} {a : Nat → ClassId} {x e0 : Nat} {A : Nat → Prop} {σ : XS} {L : va_W} {cc : ByteArray} {nL : Nat} {pc : Nat} {ls : Array Slot} {rest st : List Value} {own : String} {idx : Nat} {y : MethodName} {bytes : ByteArray} {maxL n fr lo mc ms : Nat} {ret : Option FieldType} {av : List Value}
theorem lc_R (C0 : Cx D a p s m args c cc nL own) (hM : HL D a x e0 A L (some σ) s.heap H locs) (hE : EV D a e0 A s s.heap) {Lc : va_W} (is : List Nat) (hn9 : va_nd is = true) (hs9 : is.map (fun i => L[i]?) = Lc.map some) {P : (Nat → Prop) → Heap → Option Value → Heap → Prop} (hK : ∀ A9 : Nat → Prop, (∀ (k : Nat) (r : Nat × va_E), Lc[k]? = some r → ¬ A9 r.1) → KG l y bytes maxL ret fr lo mc ms av A9 (BRa D a x e0 A9 σ Lc) (P A9)) (cw : CWS own idx y bytes maxL ret n) (hR : okR R maxL fr lo)
    (hst : st = av.reverse ++ rest) (hn : av.length = n) (hsz : ls.size = nL) (hW : (rest.map fun v => v.category).sum ≤ 8) (hc : cells + mc ≤ R.cells) (hs : slots + ms ≤ R.slots) (hdg : decode cc pc = .ok (.invokestatic idx, 3))
    (kk : ∀ H1 locs1 v, (∀ σ', XP D a x e0 (AXf A L) σ' H1 → HL D a x e0 A L (some σ') s.heap H1 locs1) → P (AXf A L) H v H1 → W p l e R s m args below meth c H1 locs1 (cells + mc) (slots + ms) Q (F0 m (pc + 3) ls (v.toList ++ rest))) : W p l e R s m args below meth c H locs cells slots Q (F0 m pc ls st) := by
  have hMc : HL D a x e0 A Lc (some σ) s.heap H locs := hM.sub is hn9 hs9
  have key : ∀ (k : Nat) (r : Nat × va_E), Lc[k]? = some r → ∃ i : Nat, L[i]? = some r := by
    intro k r hk
    have h9 : (is.map (fun i => L[i]?))[k]? = some (some r) := by rw [hs9, List.getElem?_map, hk]; rfl
    rw [List.getElem?_map] at h9
    cases hi : is[k]? with
    | none => rw [hi] at h9; cases h9
    | some i => rw [hi] at h9; exact ⟨i, Option.some.inj h9⟩
  have hX : XP D a x e0 (AXf A L) σ H := hM.2.2.2
  have hrun := va_runS (mc := mc) (ms := ms) (R := R) (e := e) (below := below) (meth := meth) (H := H) (locs := locs) (cells := cells) (slots := slots) (g := F0 m pc ls st) (As := av) (rest := rest) C0.1 (hK (AXf A L) (fun k r hk g => by
    obtain ⟨i, hi⟩ := key k r hk
    exact g.2 i r hi rfl)) (cws_of cw C0.1.2.2.2.2 hR) ⟨fun z U g mk q => ⟨q.1, bra_good.2 U g mk z q.2⟩, fun U hU hW => ⟨rfl, hM.ev hE hW hU, by rw [hU]; exact hX, by rw [hU]; exact hMc.1, hMc.2.1⟩⟩ rfl hn hsz hst (lv_room hW) hdg ⟨hc, hs⟩
  intro T hT X
  obtain ⟨v', st₀, t, T', L9, h0, X', hL, e1, e2, ⟨⟨v, hv, hP⟩, hF⟩, stp⟩ := hrun T hT X
  cases hv
  have hk := vx_keep (A1 := AXf A L) (A0 := A) h0 e1 hM.2.2.1 (fun z _ h => h.1) (fun z h => h.1) hL hF
  obtain ⟨t2, a1, b1⟩ := kk T'.heap (locs ++ L9) v' (fun σ' hX' => ⟨hM.1.kept (fun k r hr => hk.2.1 _ (hM.1 k r hr).lt (fun g => g.2 k r hr rfl)), hM.2.1, hk.2.2, hX'⟩) (by rw [e1, ← h0]; exact hP) T' rfl X'
  exact ⟨t2, stp t2 a1, b1⟩
end LR
