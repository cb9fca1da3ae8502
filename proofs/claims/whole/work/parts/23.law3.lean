theorem cwi_118 : CWI RL 118 yX10_init cX10_init 2 0 := ⟨q_80, q_81, q_51, q_82, rfl, ⟨by decide +kernel, by decide +kernel, by decide +kernel⟩⟩
theorem cwi_121 : CWI RL 121 yX11_init cX11_init 1 0 := ⟨q_1172, q_1173, q_62, q_1174, rfl, ⟨by decide +kernel, by decide +kernel, by decide +kernel⟩⟩
/-! ===== the law from its entry ===== -/
section LAW3
variable {p : Program} {l : Launch} {e : Env} {R : Room} {s : State} {m : MethodId} {args : Array Value} {below : List Frame} {meth : Method} {c : Code} {H : Heap} {locs : List Loc} {cells slots : Nat} {Q : State → Prop} {D : va_G} {a : Nat → ClassId} {e0 : Nat} {A A0 : Nat → Prop} {cc : ByteArray} {nL : Nat} {pc : Nat} {ls : Array Slot} {rest st : List Value} {own : String} {idx : Nat} {y : MethodName} {bytes : ByteArray} {maxL n fr lo mc ms : Nat} {av : List Value} {b : Nat}
theorem cg_I2 {B : State → Prop} {P : Heap → Option Value → Heap → Prop} (C0 : Cx D a p s m args c cc nL own) (hS : va_S A0 s.heap H locs) (hA : ∀ q, A q → A0 q) (hK : KG l y bytes maxL none fr lo mc ms (.ref b :: av) A B P) (hG : GB D a B) (cw : CWI own idx y bytes maxL n) (hR : okR R maxL fr lo) (hB : ∀ U : State, U.heap = H → s.WarmedH U.vm → B U)
    (hst : st = av.reverse ++ .ref b :: rest) (hn : av.length = n) (hsz : ls.size = nL) (hW : (rest.map fun v => v.category).sum ≤ 8) (hc : cells + mc ≤ R.cells) (hs : slots + ms ≤ R.slots) (hdg : decode cc pc = .ok (.invokespecial idx, 3))
    (kk : ∀ H1 locs1 v, va_S A0 s.heap H1 locs1 → (∀ q, q < H.size → ¬ A q → H1[q]? = H[q]?) → P H v H1 → W p l e R s m args below meth c H1 locs1 (cells + mc) (slots + ms) Q (F0 m (pc + 3) ls (v.toList ++ rest))) : W p l e R s m args below meth c H locs cells slots Q (F0 m pc ls st) := by
  have hrun := va_runI (mc := mc) (ms := ms) (R := R) (e := e) (below := below) (meth := meth) (H := H) (locs := locs) (cells := cells) (slots := slots) (g := F0 m pc ls st) (As := av) (rest := rest) (b := b) C0.1 hK (cwi_of cw C0.1.2.2.2.2 hR) ⟨fun z U g mk q => ⟨q.1, hG.2 U g mk z q.2⟩, fun U hU hW => ⟨rfl, hB U hU hW⟩⟩ rfl hn hsz hst (lv_room hW) hdg ⟨hc, hs⟩
  intro T hT X
  obtain ⟨v', st₀, t, T', L, h0, X', hL, e1, e2, ⟨⟨v, hv, hP⟩, hF⟩, stp⟩ := hrun T hT X
  cases hv
  have hk := vx_keep (A1 := A) (A0 := A0) h0 e1 hS (fun q _ h => hA q h) (fun q h => hA q h) hL hF
  obtain ⟨t2, a1, b1⟩ := kk T'.heap (locs ++ L) v' hk.2.2 hk.2.1 (by rw [e1, ← h0]; exact hP) T' rfl X'
  exact ⟨t2, stp t2 a1, b1⟩
end LAW3
theorem b11_good {D : va_G} {a : Nat → ClassId} {mo : Nat} : GB D a (B11 D a mo) := ⟨fun U h => h.1, fun U g mk z h => ⟨bk_blind g mk z h.1, h.2⟩⟩
theorem law_lt {N k : Nat} (hN : N ≤ 3072) (hk : k ≤ 600) (h : ¬ Int32.ofNat N - 6 < nI (6 * k)) : 6 * k + 6 ≤ N := by
  rcases Nat.lt_or_ge N 6 with h6 | h6
  · exfalso
    apply h
    have key : ∀ N, N < 6 → Int32.ofNat N - 6 < 0 := by decide
    have h1 := key N h6
    have h2 : (0 : Int32) ≤ nI (6 * k) := nI_pos' (by omega)
    rw [Int32.lt_iff_toInt_lt] at h1 ⊢
    rw [Int32.le_iff_toInt_le] at h2
    omega
  · have e1 : Int32.ofNat N - 6 = nI (N - 6) := by
      have : Int32.ofNat N = nI (N - 6) + 6 := by
        show nI N = nI (N - 6) + nI 6
        rw [nI_add, Nat.sub_add_cancel h6]
      rw [this]
      simp
    rw [e1, nI_ltI (by omega) (by omega)] at h
    omega
set_option maxHeartbeats 4000000 in
set_option maxRecDepth 100000 in
theorem law_run (Rep : XS → Nat → MS → Prop) (b_camera : Br_camera Rep) (b_clock : Br_clock Rep) (b_cloud : Br_cloud Rep) (b_begin : Br_begin Rep) (b_end : Br_end Rep) (b_fireball : Br_fireball Rep) (b_fireballAnew : Br_fireballAnew Rep) (b_fireballs : Br_fireballs Rep) (b_told : Br_told Rep) (b_stream : Br_stream Rep) (b_flux : Br_flux Rep) (b_wind : Br_wind Rep) (b_walk : Br_walk Rep) (b_chance : Br_chance Rep) (b_find : Br_find Rep) (b_fall : Br_fall Rep) (b_minerals : Br_minerals Rep) (b_rule : Br_rule Rep) (b_classOf : Br_classOf Rep) (b_pair : Br_pair Rep) (b_cut : Br_cut Rep) (b_lend : Br_lend Rep) (b_steal : Br_steal Rep) (b_law : Br_law Rep) (b_give : Br_give Rep) (b_name : Br_name Rep) (b_doubt : Br_doubt Rep) (b_stone : Br_stone Rep) (b_whole : Br_whole Rep) (hR0 : ∀ σ x, 0 < x → XI x 60 σ → Rep σ x μ0) {p : Program} {l : Launch} (hfl : l.stackTraces = false) {e : Env} {R : Room} {s : State} {m : MethodId} {args : Array Value} {below : List Frame} {meth : Method} {c : Code} {Q : State → Prop} {D : va_G} {a : Nat → ClassId} {x e0 b N : Nat} {xs : Nat → Int32} {ls : Array Slot} (hxs : x = s.heap.size) (C : Cx D a p s m args c cL_law_ 8 RL) (hE : EV D a e0 (fun q => x ≤ q) s s.heap) (hAO : va_AO "FireNet$Rule" s) (hNc : ∀ r ∈ NCW, va_Nc r.1 r.2 s) (hX : va_X b N xs s s.heap) (hb0 : b < s.heap.size) (hN : N ≤ 3072) (hRf : R.frames = 13) (hRl : R.locals = 494) (hRc : 5330 ≤ R.cells) (hRs : 230200 ≤ R.slots) (hl : lv_has ls 8 [(0, .ref b)]) (fin : ∀ H locs ls, va_S (fun q => x ≤ q) s.heap H locs → W p l e R s m args below meth c H locs R.cells R.slots Q (F0 m 2221 ls [.int 1])) : W p l e R s m args below meth c s.heap [] 0 0 Q (F0 m 0 ls []) := by
  have hx := C.1.1
  have hb := C.1.2.1
  have hts := C.1.2.2.2.2
  have hbA : ¬ x ≤ b := by omega
  have hx0 : 0 < x := by omega
  have loop : ∀ (mo oo : Nat), LC s D a x e0 mo oo → ∀ (n k : Nat), k + n = 513 → ∀ (H : Heap) (locs : List Loc) (σ : XS) (μ : MS) (f : Nat → Int64) (ls : Array Slot), LI s D a x e0 mo oo σ μ f H locs → Rep σ x μ → lv_has ls 8 [(4, .int (nI (6 * k))), (3, .ref oo), (2, .ref mo), (1, .ref x), (0, .ref b)] → W p l e R s m args below meth c H locs (200 + 10 * k) (25000 + 400 * k) Q (F0 m 23 ls []) := by
    intro mo oo hC n
    induction n with
    | zero =>
      intro k hk H locs σ μ f ls hL hRep hl
      refine lv_iload hx hb dL_law__23 (lv_at hl 0 rfl) ?_
      refine lv_aload_n hx hb dL_law__25 rfl (lv_at hl 4 rfl) ?_
      refine va_slen (A := fun q => x ≤ q) hx hb hX hb0 hbA hL.2.2.2 dL_law__26 ?_
      refine lv_bipush (v := 6) hx hb dL_law__27 (by decide) ?_
      refine lv_isub hx hb dL_law__29 ?_
      refine lv_icmp_gt (tgt := 2220) hx hb dL_law__30 (by decide) (fun _ => ?_) (fun h9 => absurd (law_lt hN (by omega) h9) (by omega))
      refine lv_iconst (v := 1) hx hb dL_law__2220 (by decide) ?_
      exact W.widen (k := R.cells) (n := R.slots) (by omega) (by omega) (fin _ _ ls hL.2.2.2)
    | succ n ih =>
      intro k hk H locs σ μ f ls hL hRep hl
      refine lv_iload hx hb dL_law__23 (lv_at hl 0 rfl) ?_
      refine lv_aload_n hx hb dL_law__25 rfl (lv_at hl 4 rfl) ?_
      refine va_slen (A := fun q => x ≤ q) hx hb hX hb0 hbA hL.2.2.2 dL_law__26 ?_
      refine lv_bipush (v := 6) hx hb dL_law__27 (by decide) ?_
      refine lv_isub hx hb dL_law__29 ?_
      refine lv_icmp_gt (tgt := 2220) hx hb dL_law__30 (by decide) (fun _ => ?_) (fun h9 => ?_)
      · refine lv_iconst (v := 1) hx hb dL_law__2220 (by decide) ?_
        exact W.widen (k := R.cells) (n := R.slots) (by omega) (by omega) (fin _ _ ls hL.2.2.2)
      have hi := law_lt hN (by omega) h9
      have hend : ∀ σ1 μ1 f1 H1 locs1 ls1, LI s D a x e0 mo oo σ1 μ1 f1 H1 locs1 → Rep σ1 x μ1 → lv_has ls1 8 [(4, .int (nI (6 * k))), (3, .ref oo), (2, .ref mo), (1, .ref x), (0, .ref b)] → W p l e R s m args below meth c H1 locs1 (200 + 10 * k + 10) (25000 + 400 * k + 400) Q (F0 m 2214 ls1 []) := by
        intro σ1 μ1 f1 H1 locs1 ls1 hL1 hRep1 hl1
        refine lv_iinc (v := nI (6 * k) + 6) (lv' := [(4, .int (nI (6 * k) + 6)), (3, .ref oo), (2, .ref mo), (1, .ref x), (0, .ref b)]) hx hb dL_law__2214 hl1 (k := 0) rfl rfl (by decide) rfl (fun ls2 hl2 => ?_)
        refine lv_goto (tgt := 23) hx hb dL_law__2217 (by decide) ?_
        have e6 : nI (6 * k) + 6 = nI (6 * (k + 1)) := by
          rw [show (6 : Int32) = nI 6 from rfl, nI_add, show 6 * k + 6 = 6 * (k + 1) by omega]
        rw [e6] at hl2
        exact W.widen (k := 200 + 10 * (k + 1)) (n := 25000 + 400 * (k + 1)) (by omega) (by omega) (ih (k + 1) (by omega) H1 locs1 σ1 μ1 f1 ls2 hL1 hRep1 hl2)
      refine lv_aload_n hx hb dL_law__33 rfl (lv_at hl 4 rfl) ?_
      refine lv_iload hx hb dL_law__34 (lv_at hl 0 rfl) ?_
      refine va_sld (A := fun q => x ≤ q) hx hb hX hb0 hbA hL.2.2.2 (nI_in (by omega) (by omega)) dL_law__36 ?_
      refine lv_bipush (v := 31) hx hb dL_law__37 (by decide) ?_
      refine lv_iand hx hb dL_law__39 ?_
      generalize (xs (nI (6 * k)).toNatClampNeg &&& 31) = w
      by_cases c0 : w = 0
      · refine sw_in (tgt := 172) hx hb dL_law__40 c0 (by decide) (by decide) rfl (by decide) ?_
        exact lawc_camera Rep b_camera hfl C hC hX hb0 hN hi (by rw [hRf]; decide) (by rw [hRl]; decide) (by omega) (by omega) hL hRep hl hend
      by_cases c1 : w = 1
      · refine sw_in (tgt := 252) hx hb dL_law__40 c1 (by decide) (by decide) rfl (by decide) ?_
        exact lawc_clock Rep b_clock hfl C hC hX hb0 hN hi (by rw [hRf]; decide) (by rw [hRl]; decide) (by omega) (by omega) hL hRep hl hend
      by_cases c2 : w = 2
      · refine sw_in (tgt := 320) hx hb dL_law__40 c2 (by decide) (by decide) rfl (by decide) ?_
        exact lawc_cloud Rep b_cloud hfl C hC hX hb0 hN hi (by rw [hRf]; decide) (by rw [hRl]; decide) (by omega) (by omega) hL hRep hl hend
      by_cases c3 : w = 3
      · refine sw_in (tgt := 388) hx hb dL_law__40 c3 (by decide) (by decide) rfl (by decide) ?_
        exact lawc_begin Rep b_begin hfl C hC hX hb0 hN hi (by rw [hRf]; decide) (by rw [hRl]; decide) (by omega) (by omega) hL hRep hl hend
      by_cases c4 : w = 4
      · refine sw_in (tgt := 472) hx hb dL_law__40 c4 (by decide) (by decide) rfl (by decide) ?_
        exact lawc_end Rep b_end hfl C hC hX hb0 hN hi (by rw [hRf]; decide) (by rw [hRl]; decide) (by omega) (by omega) hL hRep hl hend
      by_cases c5 : w = 5
      · refine sw_in (tgt := 564) hx hb dL_law__40 c5 (by decide) (by decide) rfl (by decide) ?_
        exact lawc_fireball Rep b_fireball hfl C hC hX hb0 hN hi (by rw [hRf]; decide) (by rw [hRl]; decide) (by omega) (by omega) hL hRep hl hend
      by_cases c6 : w = 6
      · refine sw_in (tgt := 620) hx hb dL_law__40 c6 (by decide) (by decide) rfl (by decide) ?_
        exact lawc_fireballAnew Rep b_fireballAnew hfl C hC hX hb0 hN hi (by rw [hRf]; decide) (by rw [hRl]; decide) (by omega) (by omega) hL hRep hl hend
      by_cases c7 : w = 7
      · refine sw_in (tgt := 676) hx hb dL_law__40 c7 (by decide) (by decide) rfl (by decide) ?_
        exact lawc_fireballs Rep b_fireballs hfl C hC hX hb0 hN hi (by rw [hRf]; decide) (by rw [hRl]; decide) (by omega) (by omega) hL hRep hl hend
      by_cases c8 : w = 8
      · refine sw_in (tgt := 732) hx hb dL_law__40 c8 (by decide) (by decide) rfl (by decide) ?_
        exact lawc_told Rep b_told hfl C hC hX hb0 hN hi (by rw [hRf]; decide) (by rw [hRl]; decide) (by omega) (by omega) hL hRep hl hend
      by_cases c9 : w = 9
      · refine sw_in (tgt := 799) hx hb dL_law__40 c9 (by decide) (by decide) rfl (by decide) ?_
        exact lawc_stream Rep b_stream hfl C hC hX hb0 hN hi (by rw [hRf]; decide) (by rw [hRl]; decide) (by omega) (by omega) hL hRep hl hend
      by_cases c10 : w = 10
      · refine sw_in (tgt := 874) hx hb dL_law__40 c10 (by decide) (by decide) rfl (by decide) ?_
        exact lawc_flux Rep b_flux hfl C hC hX hb0 hN hi (by rw [hRf]; decide) (by rw [hRl]; decide) (by omega) (by omega) hL hRep hl hend
      by_cases c11 : w = 11
      · refine sw_in (tgt := 954) hx hb dL_law__40 c11 (by decide) (by decide) rfl (by decide) ?_
        exact lawc_wind Rep b_wind hfl C hC hX hb0 hN hi (by rw [hRf]; decide) (by rw [hRl]; decide) (by omega) (by omega) hL hRep hl hend
      by_cases c12 : w = 12
      · refine sw_in (tgt := 1014) hx hb dL_law__40 c12 (by decide) (by decide) rfl (by decide) ?_
        exact lawc_walk Rep b_walk hfl C hC hX hb0 hN hi (by rw [hRf]; decide) (by rw [hRl]; decide) (by omega) (by omega) hL hRep hl hend
      by_cases c13 : w = 13
      · refine sw_in (tgt := 1105) hx hb dL_law__40 c13 (by decide) (by decide) rfl (by decide) ?_
        exact lawc_chance Rep b_chance hfl C hC hX hb0 hN hi (by rw [hRf]; decide) (by rw [hRl]; decide) (by omega) (by omega) hL hRep hl hend
      by_cases c14 : w = 14
      · refine sw_in (tgt := 1184) hx hb dL_law__40 c14 (by decide) (by decide) rfl (by decide) ?_
        exact lawc_find Rep b_find hfl C hC hX hb0 hN hi (by rw [hRf]; decide) (by rw [hRl]; decide) (by omega) (by omega) hL hRep hl hend
      by_cases c15 : w = 15
      · refine sw_in (tgt := 1288) hx hb dL_law__40 c15 (by decide) (by decide) rfl (by decide) ?_
        exact lawc_fall Rep b_fall hfl C hC hX hb0 hN hi (by rw [hRf]; decide) (by rw [hRl]; decide) (by omega) (by omega) hL hRep hl hend
      by_cases c16 : w = 16
      · refine sw_in (tgt := 1344) hx hb dL_law__40 c16 (by decide) (by decide) rfl (by decide) ?_
        exact lawc_minerals Rep b_minerals hfl C hC hX hb0 hN hi (by rw [hRf]; decide) (by rw [hRl]; decide) (by omega) (by omega) hL hRep hl hend
      by_cases c17 : w = 17
      · refine sw_in (tgt := 1416) hx hb dL_law__40 c17 (by decide) (by decide) rfl (by decide) ?_
        exact lawc_rule Rep b_rule hfl C hC hX hb0 hN hi (by rw [hRf]; decide) (by rw [hRl]; decide) (by omega) (by omega) hL hRep hl hend
      by_cases c18 : w = 18
      · refine sw_in (tgt := 1476) hx hb dL_law__40 c18 (by decide) (by decide) rfl (by decide) ?_
        exact lawc_classOf Rep b_classOf hfl C hC hX hb0 hN hi (by rw [hRf]; decide) (by rw [hRl]; decide) (by omega) (by omega) hL hRep hl hend
      by_cases c19 : w = 19
      · refine sw_in (tgt := 1544) hx hb dL_law__40 c19 (by decide) (by decide) rfl (by decide) ?_
        exact lawc_pair Rep b_pair hfl C hC hX hb0 hN hi (by rw [hRf]; decide) (by rw [hRl]; decide) (by omega) (by omega) hL hRep hl hend
      by_cases c20 : w = 20
      · refine sw_in (tgt := 1631) hx hb dL_law__40 c20 (by decide) (by decide) rfl (by decide) ?_
        exact lawc_cut Rep b_cut hfl C hC hX hb0 hN hi (by rw [hRf]; decide) (by rw [hRl]; decide) (by omega) (by omega) hL hRep hl hend
      by_cases c21 : w = 21
      · refine sw_in (tgt := 1711) hx hb dL_law__40 c21 (by decide) (by decide) rfl (by decide) ?_
        exact lawc_lend Rep b_lend hfl C hC hX hb0 hN hi (by rw [hRf]; decide) (by rw [hRl]; decide) (by omega) (by omega) hL hRep hl hend
      by_cases c22 : w = 22
      · refine sw_in (tgt := 1759) hx hb dL_law__40 c22 (by decide) (by decide) rfl (by decide) ?_
        exact lawc_steal Rep b_steal hfl C hC hX hb0 hN hi (by rw [hRf]; decide) (by rw [hRl]; decide) (by omega) (by omega) hL hRep hl hend
      by_cases c23 : w = 23
      · refine sw_in (tgt := 1795) hx hb dL_law__40 c23 (by decide) (by decide) rfl (by decide) ?_
        exact lawc_law Rep b_law hfl C hC hX hb0 hN hi (by rw [hRf]; decide) (by rw [hRl]; decide) (by omega) (by omega) hL hRep hl hend
      by_cases c24 : w = 24
      · refine sw_in (tgt := 1863) hx hb dL_law__40 c24 (by decide) (by decide) rfl (by decide) ?_
        exact lawc_give Rep b_give hfl C hC hX hb0 hN hi (by rw [hRf]; decide) (by rw [hRl]; decide) (by omega) (by omega) hL hRep hl hend
      by_cases c25 : w = 25
      · refine sw_in (tgt := 1931) hx hb dL_law__40 c25 (by decide) (by decide) rfl (by decide) ?_
        exact lawc_name Rep b_name hfl C hC hX hb0 hN hi (by rw [hRf]; decide) (by rw [hRl]; decide) (by omega) (by omega) hL hRep hl hend
      by_cases c26 : w = 26
      · refine sw_in (tgt := 1999) hx hb dL_law__40 c26 (by decide) (by decide) rfl (by decide) ?_
        exact lawc_doubt Rep b_doubt hfl C hC hX hb0 hN hi (by rw [hRf]; decide) (by rw [hRl]; decide) (by omega) (by omega) hL hRep hl hend
      by_cases c27 : w = 27
      · refine sw_in (tgt := 2090) hx hb dL_law__40 c27 (by decide) (by decide) rfl (by decide) ?_
        exact lawc_stone Rep b_stone hfl C hC hX hb0 hN hi (by rw [hRf]; decide) (by rw [hRl]; decide) (by omega) (by omega) hL hRep hl hend
      by_cases c28 : w = 28
      · refine sw_in (tgt := 2158) hx hb dL_law__40 c28 (by decide) (by decide) rfl (by decide) ?_
        exact lawc_whole Rep b_whole hfl C hC hX hb0 hN hi (by rw [hRf]; decide) (by rw [hRl]; decide) (by omega) (by omega) hL hRep hl hend
      refine lv_tableOut (tgt := 2214) hx hb dL_law__40 (by have e0 := lv_neT c0 (a := 0) (by decide); have e1 := lv_neT c1 (a := 1) (by decide); have e2 := lv_neT c2 (a := 2) (by decide); have e3 := lv_neT c3 (a := 3) (by decide); have e4 := lv_neT c4 (a := 4) (by decide); have e5 := lv_neT c5 (a := 5) (by decide); have e6 := lv_neT c6 (a := 6) (by decide); have e7 := lv_neT c7 (a := 7) (by decide); have e8 := lv_neT c8 (a := 8) (by decide); have e9 := lv_neT c9 (a := 9) (by decide); have e10 := lv_neT c10 (a := 10) (by decide); have e11 := lv_neT c11 (a := 11) (by decide); have e12 := lv_neT c12 (a := 12) (by decide); have e13 := lv_neT c13 (a := 13) (by decide); have e14 := lv_neT c14 (a := 14) (by decide); have e15 := lv_neT c15 (a := 15) (by decide); have e16 := lv_neT c16 (a := 16) (by decide); have e17 := lv_neT c17 (a := 17) (by decide); have e18 := lv_neT c18 (a := 18) (by decide); have e19 := lv_neT c19 (a := 19) (by decide); have e20 := lv_neT c20 (a := 20) (by decide); have e21 := lv_neT c21 (a := 21) (by decide); have e22 := lv_neT c22 (a := 22) (by decide); have e23 := lv_neT c23 (a := 23) (by decide); have e24 := lv_neT c24 (a := 24) (by decide); have e25 := lv_neT c25 (a := 25) (by decide); have e26 := lv_neT c26 (a := 26) (by decide); have e27 := lv_neT c27 (a := 27) (by decide); have e28 := lv_neT c28 (a := 28) (by decide); omega) (by decide) ?_
      exact W.widen (k := 200 + 10 * k + 10) (n := 25000 + 400 * k + 400) (by omega) (by omega) (hend _ _ _ _ _ ls hL hRep hl)
  refine wx_new (D := D) (cl := vwCl) (tys := tyL a) (ci := 11) (C := RX10) (T := TX10) (N := 14) (fs := xB) hx hb hts tb_X10 tyX10 tyX10_ok C.1.2.2.2.1 (hts _ q_78) (hts _ q_79) (hts _ q_51) C.2 rfl ?_ (Nat.le_trans (by decide) hRc) (Nat.le_trans (by decide) hRs) dL_law__0 (fun H1 e1 z1 o1 => ?_)
  · intro j hj
    rcases (show j = 0 ∨ j = 1 ∨ j = 2 ∨ j = 3 ∨ j = 4 ∨ j = 5 ∨ j = 6 ∨ j = 7 ∨ j = 8 ∨ j = 9 ∨ j = 10 ∨ j = 11 ∨ j = 12 ∨ j = 13 by omega) with rfl | rfl | rfl | rfl | rfl | rfl | rfl | rfl | rfl | rfl | rfl | rfl | rfl | rfl <;> rfl
  rw [← hxs] at e1 ⊢
  have hS1 : va_S (fun q => x ≤ q) s.heap H1 [] := ⟨by rw [z1]; omega, fun q h1 h2 => o1 q h1, fun _ h => nomatch h⟩
  refine lv_dup hx hb dL_law__3 rfl ?_
  refine cg_I2 (A := fun z => x ≤ z) (av := []) (b := x) C hS1 (fun _ h => h) (k_X10_init l D a x e0) bn_good cwi_118 (okR_of hRf hRl (Nat.le_of_ble_eq_true rfl) (Nat.le_of_ble_eq_true rfl)) (fun U hU hW => ⟨EV.at hE hS1 hW hU, va_AO.moved hW.alike hAO, by rw [hU]; exact ⟨by rw [z1, ← hxs], e1, rfl, fun j hj => absurd hj (Nat.not_lt_zero _)⟩⟩) rfl rfl hl.1 (Nat.le_of_ble_eq_true rfl) (Nat.le_trans (by decide) hRc) (Nat.le_trans (by decide) hRs) dL_law__4 (fun H2 locs2 v hS2 _ hP2 => ?_)
  obtain ⟨rfl, σ, hXP, hXI⟩ := hP2
  refine lv_astore_n (lv' := [(1, .ref x), (0, .ref b)]) hx hb dL_law__7 rfl hl (by decide) rfl (fun ls hl => ?_)
  refine wx_new (D := D) (cl := vwCl) (tys := tyL a) (ci := 12) (C := RX11) (T := TX11) (N := 67) (fs := mB) hx hb hts tb_X11 tyX11 tyX11_ok C.1.2.2.2.1 (hts _ q_1170) (hts _ q_1171) (hts _ q_62) C.2 rfl ?_ (Nat.le_trans (by decide) hRc) (Nat.le_trans (by decide) hRs) dL_law__8 (fun H3 e3 z3 o3 => ?_)
  · intro j hj
    rcases (show j = 0 ∨ j = 1 ∨ j = 2 ∨ j = 3 ∨ j = 4 ∨ j = 5 ∨ j = 6 ∨ j = 7 ∨ j = 8 ∨ j = 9 ∨ j = 10 ∨ j = 11 ∨ j = 12 ∨ j = 13 ∨ j = 14 ∨ j = 15 ∨ j = 16 ∨ j = 17 ∨ j = 18 ∨ j = 19 ∨ j = 20 ∨ j = 21 ∨ j = 22 ∨ j = 23 ∨ j = 24 ∨ j = 25 ∨ j = 26 ∨ j = 27 ∨ j = 28 ∨ j = 29 ∨ j = 30 ∨ j = 31 ∨ j = 32 ∨ j = 33 ∨ j = 34 ∨ j = 35 ∨ j = 36 ∨ j = 37 ∨ j = 38 ∨ j = 39 ∨ j = 40 ∨ j = 41 ∨ j = 42 ∨ j = 43 ∨ j = 44 ∨ j = 45 ∨ j = 46 ∨ j = 47 ∨ j = 48 ∨ j = 49 ∨ j = 50 ∨ j = 51 ∨ j = 52 ∨ j = 53 ∨ j = 54 ∨ j = 55 ∨ j = 56 ∨ j = 57 ∨ j = 58 ∨ j = 59 ∨ j = 60 ∨ j = 61 ∨ j = 62 ∨ j = 63 ∨ j = 64 ∨ j = 65 ∨ j = 66 by omega) with rfl | rfl | rfl | rfl | rfl | rfl | rfl | rfl | rfl | rfl | rfl | rfl | rfl | rfl | rfl | rfl | rfl | rfl | rfl | rfl | rfl | rfl | rfl | rfl | rfl | rfl | rfl | rfl | rfl | rfl | rfl | rfl | rfl | rfl | rfl | rfl | rfl | rfl | rfl | rfl | rfl | rfl | rfl | rfl | rfl | rfl | rfl | rfl | rfl | rfl | rfl | rfl | rfl | rfl | rfl | rfl | rfl | rfl | rfl | rfl | rfl | rfl | rfl | rfl | rfl | rfl | rfl <;> rfl
  obtain ⟨mo, hmo⟩ : ∃ mo, mo = H2.size := ⟨_, rfl⟩
  rw [← hmo] at e3 ⊢
  have hxm : x < mo := by rw [hmo]; exact (xP_top hXP).lt
  have hS3 : va_S (fun q => x ≤ q) s.heap H3 locs2 := ⟨Nat.le_trans hS2.1 (by rw [z3]; omega), fun q h1 h2 => (o3 q (Nat.lt_of_lt_of_le h1 hS2.1)).trans (hS2.2.1 q h1 h2), hS2.2.2⟩
  have hXP3 : XP D a x e0 (fun z => x ≤ z) σ H3 := hXP.ext o3
  refine lv_dup hx hb dL_law__11 rfl ?_
  refine cg_I2 (A := fun z => mo ≤ z) (av := []) (b := mo) C hS3 (fun q h => by show x ≤ q; have h : mo ≤ q := h; omega) (k_X11_init l D a mo) b11_good cwi_121 (okR_of hRf hRl (Nat.le_of_ble_eq_true rfl) (Nat.le_of_ble_eq_true rfl)) (fun U hU hW => ⟨va_K.moved hW.alike C.2, by rw [hU]; exact ⟨by rw [z3, ← hmo], e3, rfl, fun j q hj => absurd hj (Nat.not_lt_zero _)⟩⟩) rfl rfl hl.1 (Nat.le_of_ble_eq_true rfl) (Nat.le_trans (by decide) hRc) (Nat.le_trans (by decide) hRs) dL_law__12 (fun H4 locs4 v hS4 hk4 hP4 => ?_)
  obtain ⟨rfl, z4, hMW⟩ := hP4
  refine lv_astore_n (lv' := [(2, .ref mo), (1, .ref x), (0, .ref b)]) hx hb dL_law__15 rfl hl (by decide) rfl (fun ls hl => ?_)
  refine lv_iconst (v := 1) hx hb dL_law__16 (by decide) ?_
  refine va_newaK (atype := .long) hx hb (hts _ q_1379) rfl dL_law__17 rfl (n := 1) (N := 1) (by decide) (by decide) (by decide) (Nat.le_trans (by decide) hRc) (Nat.le_trans (by decide) hRs) rfl (fun H5 cA e5 z5 o5 _ hNm => ?_)
  have hcA := mi_cell (t := 1) (ty := .long) C rfl (fun _ h => by cases h) hNm
  subst hcA
  refine lv_astore_n (lv' := [(3, .ref H4.size), (2, .ref mo), (1, .ref x), (0, .ref b)]) hx hb dL_law__19 rfl hl (by decide) rfl (fun ls hl => ?_)
  refine lv_iconst (v := nI 0) hx hb dL_law__20 (by decide) ?_
  refine lv_istore (lv' := [(4, .int (nI 0)), (3, .ref H4.size), (2, .ref mo), (1, .ref x), (0, .ref b)]) hx hb dL_law__21 hl (by decide) rfl (fun ls hl => ?_)
  have hC : LC s D a x e0 mo H4.size := ⟨hxs, hxm, by rw [z4]; omega, hE, hNc⟩
  have hLI : LI s D a x e0 mo H4.size σ μ0 (fun _ => 0) H5 locs4 := by
    refine ⟨?_, hMW.kept (fun k q hk => o5 _ (hMW k q hk).lt), e5, ⟨Nat.le_trans hS4.1 (by rw [z5]; omega), fun q h1 h2 => (o5 q (Nat.lt_of_lt_of_le h1 hS4.1)).trans (hS4.2.1 q h1 h2), hS4.2.2⟩⟩
    obtain ⟨Mp, ow, hM, hs⟩ := hXP
    refine ⟨Mp, ow, fun z en hz => ?_, hs⟩
    obtain ⟨g1, g2, g3⟩ := hM z en hz
    have g4 : z < mo := by rw [hmo]; exact g1.lt
    have g5 : H3[z]? = H2[z]? := o3 z (by rw [← hmo]; exact g4)
    have g6 : H4[z]? = H3[z]? := hk4 z (by rw [z3, ← hmo]; omega) (by show ¬ mo ≤ z; omega)
    have g7 : H5[z]? = H4[z]? := o5 z (by rw [z4]; omega)
    exact ⟨g1.kept (g7.trans (g6.trans g5)), ⟨g2, by unfold AM; omega, by rw [z4]; omega⟩, g3⟩
  exact W.widen (k := 200 + 10 * 0) (n := 25000 + 400 * 0) (by decide) (by decide) (loop mo H4.size hC 513 0 rfl H5 locs4 σ μ0 _ ls hLI (hR0 σ x hx0 hXI) hl)
