/-! ===== FireNet's constructor ===== -/
def σ00 (x : Nat) : XS := (fun z => if z = x + 5 ∨ z = x + 6 then 3 else if z = x + 9 then 4 else 0, fun _ _ => 0, fun _ _ => 0, fun _ _ => 0, fun _ => 0, fun _ _ => 0)
def xB : List Value := [.null, .null, .null, .null, .null, .null, .null, .null, .null, .null, .null, .null, .null, .null]
/-- a net that was just born, with i rows -/
def XI (x i : Nat) (σ : XS) : Prop := xn σ 3 = i ∧ (∀ j, j ≠ 3 → xn σ j = 0) ∧ (∀ k, k < i → xk σ (xe σ 3 k) = 5) ∧ (∀ k k', k < i → k' < i → xe σ 3 k = xe σ 3 k' → k = k') ∧ (∀ c z, xi σ c z = 0) ∧ (∀ c z, xj σ c z = 0) ∧ (∀ c z, xr σ c z = 0) ∧ xk σ (x + 5) = 3 ∧ xk σ (x + 6) = 3 ∧ xk σ (x + 9) = 4
theorem xi_0 (x : Nat) : XI x 0 (σ00 x) := by
  refine ⟨rfl, fun _ _ => rfl, fun k h => absurd h (Nat.not_lt_zero _), fun k _ h => absurd h (Nat.not_lt_zero _), fun _ _ => rfl, fun _ _ => rfl, fun _ _ => rfl, ?_, ?_, ?_⟩
  · exact if_pos (Or.inl rfl)
  · exact if_pos (Or.inr rfl)
  · show (if x + 9 = x + 5 ∨ x + 9 = x + 6 then 3 else if x + 9 = x + 9 then 4 else 0) = 4
    rw [if_neg (by omega), if_pos rfl]
section XBORN
variable {D : va_G} {a : Nat → ClassId} {x e0 : Nat} {H : Heap}
theorem ni_XP (hx0 : 0 < x) (hI : NI D a x e0 13 (xTop x (σ00 x)) H) : XP D a x e0 (fun z => x ≤ z) (σ00 x) H := by
  obtain ⟨h1, h2, h3, h4⟩ := hI
  have hMp : ∀ j, j < 13 → (fun z => if z = x then some (.inr (11, xTop x (σ00 x))) else if x < z ∧ z ≤ x + 13 then some (EN a e0 (z - (x + 1))) else none : Nat → Option va_E) (x + (j + 1)) = some (EN a e0 j) := by
    intro j hj
    show (if x + (j + 1) = x then _ else if x < x + (j + 1) ∧ x + (j + 1) ≤ x + 13 then _ else none) = _
    rw [if_neg (by omega), if_pos (by omega), show x + (j + 1) - (x + 1) = j by omega]
  refine ⟨fun z => if z = x then some (.inr (11, xTop x (σ00 x))) else if x < z ∧ z ≤ x + 13 then some (EN a e0 (z - (x + 1))) else none, fun _ => 0, ?_, if_pos rfl, hMp 10 (by decide), hMp 11 (by decide), hMp 12 (by decide), ?_, ?_⟩
  · intro z en hz
    have hz : (if z = x then some (.inr (11, xTop x (σ00 x))) else if x < z ∧ z ≤ x + 13 then some (EN a e0 (z - (x + 1))) else none : Option va_E) = some en := hz
    by_cases hzx : z = x
    · subst hzx
      rw [if_pos rfl] at hz
      cases hz
      exact ⟨h2, Nat.le_refl _, hx0⟩
    · rw [if_neg hzx] at hz
      by_cases hr : x < z ∧ z ≤ x + 13
      · rw [if_pos hr] at hz
        cases hz
        have h5 := h4 (z - (x + 1)) (by omega)
        rw [show x + (z - (x + 1) + 1) = z by omega] at h5
        exact ⟨h5, by show x ≤ z; omega, by omega⟩
      · rw [if_neg hr] at hz
        cases hz
  · intro j hj
    refine ⟨0, e0, ?_, Or.inl ⟨rfl, rfl⟩⟩
    rcases (show j = 0 ∨ j = 1 ∨ j = 2 ∨ j = 3 ∨ j = 4 ∨ j = 5 ∨ j = 6 by omega) with rfl | rfl | rfl | rfl | rfl | rfl | rfl
    · exact hMp 0 (by decide)
    · exact hMp 1 (by decide)
    · exact hMp 2 (by decide)
    · exact hMp 3 (by decide)
    · exact hMp 6 (by decide)
    · exact hMp 7 (by decide)
    · exact hMp 9 (by decide)
  · intro q hq
    have hk : xk (σ00 x) q = if q = x + 5 ∨ q = x + 6 then 3 else if q = x + 9 then 4 else 0 := rfl
    by_cases hc : q = x + 5 ∨ q = x + 6
    · have e : xk (σ00 x) q = 3 := by rw [hk, if_pos hc]
      rw [e]
      refine ⟨by decide, ?_⟩
      rcases hc with rfl | rfl
      · exact hMp 4 (by decide)
      · exact hMp 5 (by decide)
    · by_cases hc2 : q = x + 9
      · have e : xk (σ00 x) q = 4 := by rw [hk, if_neg hc, if_pos hc2]
        rw [e]
        subst hc2
        exact ⟨by decide, hMp 8 (by decide)⟩
      · exact absurd (by rw [hk, if_neg hc, if_neg hc2]) hq
theorem xi_step {i q : Nat} {σ : XS} (hI : XI x i σ) (hf : xk σ q = 0) : XI x (i + 1) (xAdd (xNew σ 5 q) 3 q) ∧ xk (xNew σ 5 q) q = 5 ∧ (∀ k, k < xn (xNew σ 5 q) 3 → xk (xNew σ 5 q) (xe (xNew σ 5 q) 3 k) = 5) ∧ xn (xNew σ 5 q) 3 = i := by
  obtain ⟨h1, h2, h3, h4, h5, h6, h7, h8, h9, h10⟩ := hI
  have nk : ∀ z, xk σ z ≠ 0 → z ≠ q := fun z hz h => hz (by rw [h]; exact hf)
  have kk : ∀ z, xk σ z ≠ 0 → xk (xNew σ 5 q) z = xk σ z := fun z hz => va_up_ne _ _ (nk z hz)
  have en : xn (xNew σ 5 q) 3 = i := h1
  have nz : ∀ {w : Nat}, xk σ w = 5 → xk σ w ≠ 0 := fun h => by rw [h]; decide
  refine ⟨⟨?_, ?_, ?_, ?_, ?_, ?_, ?_, ?_, ?_, ?_⟩, va_up_self _ _ _, fun k hk => (kk (xe σ 3 k) (nz (h3 k (by rw [en] at hk; exact hk)))).trans (h3 k (by rw [en] at hk; exact hk)), en⟩
  · show va_up σ.2.2.2.2.1 3 (xn (xNew σ 5 q) 3 + 1) 3 = i + 1
    rw [va_up_self, en]
  · intro j hj
    show va_up σ.2.2.2.2.1 3 _ j = 0
    rw [va_up_ne _ _ hj]
    exact h2 j hj
  · intro k hk
    show va_up σ.1 q 5 (up2 σ.2.2.2.2.2 3 (xn (xNew σ 5 q) 3) q 3 k) = 5
    rw [en, up2_at, if_pos rfl]
    by_cases hki : k = i
    · rw [if_pos hki, va_up_self]
    · rw [if_neg hki]
      have h := h3 k (by omega)
      exact (kk (xe σ 3 k) (nz h)).trans h
  · intro k k' hk hk' hkk
    have hkk : up2 σ.2.2.2.2.2 3 (xn (xNew σ 5 q) 3) q 3 k = up2 σ.2.2.2.2.2 3 (xn (xNew σ 5 q) 3) q 3 k' := hkk
    rw [en, up2_at, if_pos rfl, up2_at, if_pos rfl] at hkk
    by_cases hki : k = i
    · by_cases hki' : k' = i
      · omega
      · rw [if_pos hki, if_neg hki'] at hkk
        exact absurd hkk.symm (nk (xe σ 3 k') (nz (h3 k' (by omega))))
    · by_cases hki' : k' = i
      · rw [if_neg hki, if_pos hki'] at hkk
        exact absurd hkk (nk (xe σ 3 k) (nz (h3 k (by omega))))
      · rw [if_neg hki, if_neg hki'] at hkk
        exact h4 k k' (by omega) (by omega) hkk
  · intro c z
    show (if c / 20 = 5 then (if z = q then 0 else xi σ c z) else xi σ c z) = 0
    rw [h5]; simp
  · intro c z
    show (if c / 20 = 5 then (if z = q then 0 else xj σ c z) else xj σ c z) = 0
    rw [h6]; simp
  · intro c z
    show (if c / 20 = 5 then (if z = q then 0 else xr σ c z) else xr σ c z) = 0
    rw [h7]; simp
  · exact (kk _ (by rw [h8]; decide)).trans h8
  · exact (kk _ (by rw [h9]; decide)).trans h9
  · exact (kk _ (by rw [h10]; decide)).trans h10
end XBORN
theorem xb_fs (x : Nat) : (List.set (List.set (List.set (List.set (List.set (List.set (List.set (List.set (List.set (List.set (List.set (List.set (List.set (List.set xB 0 (.ref (x + (0 + 1)))) 1 (.ref (x + (1 + 1)))) 2 (.ref (x + (2 + 1)))) 3 (.null)) 4 (.ref (x + (3 + 1)))) 5 (.ref (x + (4 + 1)))) 6 (.ref (x + (5 + 1)))) 7 (.ref (x + (6 + 1)))) 8 (.ref (x + (7 + 1)))) 9 (.ref (x + (8 + 1)))) 10 (.ref (x + (9 + 1)))) 11 (.ref (x + (10 + 1)))) 12 (.ref (x + (11 + 1)))) 13 (.ref (x + (12 + 1)))) = xTop x (σ00 x) := rfl
def BN (D : va_G) (a : Nat → ClassId) (x e0 : Nat) (U : State) : Prop := EV D a e0 (fun z => x ≤ z) U U.heap ∧ va_AO "FireNet$Rule" U ∧ NI D a x e0 0 xB U.heap
theorem bn_good {D : va_G} {a : Nat → ClassId} {x e0 : Nat} : GB D a (BN D a x e0) := ⟨fun U h => h.1.1, fun U g mk z h => ⟨h.1.calling g mk z, va_AO.moved (Vm.Alike.refl U.vm) h.2.1, h.2.2⟩⟩
set_option maxHeartbeats 4000000 in
set_option maxRecDepth 100000 in
theorem k_X10_init (l : Launch) (D : va_G) (a : Nat → ClassId) (x e0 : Nat) : KG l yX10_init cX10_init 2 none 8 156 133 18833 [.ref x] (fun z => x ≤ z) (BN D a x e0) (fun _ v H1 => v = none ∧ ∃ σ, XP D a x e0 (fun z => x ≤ z) σ H1 ∧ XI x 60 σ) := by
  refine goGi (D := D) (a := a) (by decide +kernel) bn_good (Nat.le_of_ble_eq_true rfl) ?_
  intro p e s m args below meth c ls R Q hRf hRl hRc hRs C hB hl hr9
  obtain ⟨hmn, ret⟩ := hr9
  have hmn := hmn rfl
  obtain ⟨hE, hAO, hI⟩ := hB
  have hl : lv_has ls 2 [(0, .ref x)] := hl
  have hx := C.1.1
  have hb := C.1.2.1
  have hx0 : 0 < x := by
    obtain ⟨f0, hT0⟩ := hE.2.2.2.2.2.2.2.2.1
    have := hT0.out
    simp only [Nat.not_le] at this
    omega
  have loop : ∀ (n i : Nat), i + n = 60 → ∀ (H : Heap) (locs : List Loc) (σ : XS) (ls : Array Slot), HX D a x e0 (fun z => x ≤ z) σ s.heap H locs → XI x i σ → lv_has ls 2 [(1, .int (nI i)), (0, .ref x)] → W p l e R s m args below meth c H locs (13 + 2 * i) (53 + 313 * i) Q (F0 m 145 ls []) := by
    intro n
    induction n with
    | zero =>
      intro i hi H locs σ ls hM hXI hl
      have hi6 : i = 60 := by omega
      subst hi6
      refine lv_iload_n hx hb dX10_init_145 rfl (lv_at hl 0 rfl) ?_
      refine lv_bipush (v := 60) hx hb dX10_init_146 (by decide) ?_
      refine lv_icmp_ge (tgt := 174) hx hb dX10_init_148 (by decide) (fun _ => ?_) (fun c9 => absurd (by decide) c9)
      exact W.widen (k := 133) (n := 18833) (by decide) (by decide) (ret _ _ _ _ hM.2 dX10_init_174 ⟨rfl, σ, hM.1, hXI⟩)
    | succ n ih =>
      intro i hi H locs σ ls hM hXI hl
      refine lv_iload_n hx hb dX10_init_145 rfl (lv_at hl 0 rfl) ?_
      refine lv_bipush (v := nI 60) hx hb dX10_init_146 (by decide) ?_
      refine lv_icmp_ge (tgt := 174) hx hb dX10_init_148 (by decide) (fun c9 => absurd c9 (nI_ge (by omega) (by omega))) (fun _ => ?_)
      refine lv_aload_n hx hb dX10_init_151 rfl (lv_at hl 1 rfl) ?_
      refine xt_rows C hM dX10_init_152 ?_
      have hq0 := xP_pos hM.1
      have hfr := xP_fresh hM.1
      have hAq : x ≤ H.size := hE.2.2.2.2.2.1 H.size hM.2.1
      refine wx_new (D := D) (cl := vwCl) (tys := tyL a) (ci := 5) (C := RX4) (T := TX4) (N := 13) (fs := xF (xNew σ 5 H.size) 5 H.size) hx hb C.1.2.2.2.2 tb_X4 tyX4 tyX4_ok C.1.2.2.2.1 (C.1.2.2.2.2 _ q_120) (C.1.2.2.2.2 _ q_121) (C.1.2.2.2.2 _ q_32) C.2 rfl ?_ (by rw [hRc]; omega) (by rw [hRs]; omega) dX10_init_155 (fun H1 e1 e2 e3 => ?_)
      · intro j hj
        have hj : j < 13 := hj
        rcases (show j = 0 ∨ j = 1 ∨ j = 2 ∨ j = 3 ∨ j = 4 ∨ j = 5 ∨ j = 6 ∨ j = 7 ∨ j = 8 ∨ j = 9 ∨ j = 10 ∨ j = 11 ∨ j = 12 by omega) with rfl | rfl | rfl | rfl | rfl | rfl | rfl | rfl | rfl | rfl | rfl | rfl | rfl <;> simp [xF, vp_V, xi, xj, xr, xNew, rv, defaultValue, tyX4]
      · have hM1 := hM.new (by decide) rfl hAq hq0 e1 e2 e3
        obtain ⟨i1, i2, i3, i4⟩ := xi_step hXI hfr
        refine lv_dup hx hb dX10_init_158 rfl ?_
        refine cg_IN (av := []) (b := H.size) C hE hM1.2 (k_X4_init l D a (fun z => x ≤ z) H.size) bk_good cwz_70 (okR_of hRf hRl (Nat.le_of_ble_eq_true rfl) (Nat.le_of_ble_eq_true rfl)) (fun U hU hW => va_K.moved hW.alike C.2) rfl rfl hl.1 (Nat.le_of_ble_eq_true rfl) (by rw [hRc]; omega) (by rw [hRs]; omega) dX10_init_159 (fun H2 locs2 v hS2 hP2 => ?_)
        obtain ⟨rfl, rfl⟩ := hP2
        refine xl_add (j := 3) (K := 5) C hE ⟨hM1.1, hS2⟩ (by decide) i2 (by decide) rfl cb_5 (by rw [i4]; omega) i3 hRf hRl (Nat.le_of_ble_eq_true rfl) (Nat.le_of_ble_eq_true rfl) hl.1 (Nat.le_of_ble_eq_true rfl) (by rw [hRc]; omega) (by rw [hRs]; omega) dX10_init_162 (fun H3 locs3 hM3 => ?_)
        refine lv_pop hx hb dX10_init_167 rfl ?_
        refine lv_iinc (v := nI i + 1) (lv' := [(1, .int (nI i + 1)), (0, .ref x)]) hx hb dX10_init_168 hl (k := 0) rfl rfl (by decide) rfl (fun ls hl => ?_)
        rw [nI_1] at hl
        refine lv_goto (tgt := 145) hx hb dX10_init_171 (by decide) ?_
        exact W.widen (k := 13 + 2 * (i + 1)) (n := 53 + 313 * (i + 1)) (by omega) (by omega) (ih (i + 1) (by omega) H3 locs3 _ ls hM3 i1 hl)
  have hS : va_S (fun z => x ≤ z) s.heap s.heap [] := va_S.rf
  refine lv_aload_n hx hb dX10_init_0 rfl (lv_at hl 0 rfl) ?_
  refine ox_init C q_55 hl.1 (by rw [hRf]; decide) (by rw [hRl]; exact Nat.le_of_ble_eq_true rfl) dX10_init_1 ?_
  refine lv_aload_n hx hb dX10_init_4 rfl (lv_at hl 0 rfl) ?_
  refine ni_list (i := 0) (k := 0) C hmn hE hRf hRl hl.1 rfl hI hS rfl (by decide) q_237 (by decide +kernel) rfl (by rw [hRc]; exact Nat.le_of_ble_eq_true rfl) (by rw [hRs]; exact Nat.le_of_ble_eq_true rfl) dX10_init_5 dX10_init_8 dX10_init_9 dX10_init_12 (fun H locs hI hS => ?_)
  refine lv_aload_n hx hb dX10_init_15 rfl (lv_at hl 0 rfl) ?_
  refine ni_list (i := 1) (k := 1) C hmn hE hRf hRl hl.1 rfl hI hS rfl (by decide) q_238 (by decide +kernel) rfl (by rw [hRc]; exact Nat.le_of_ble_eq_true rfl) (by rw [hRs]; exact Nat.le_of_ble_eq_true rfl) dX10_init_16 dX10_init_19 dX10_init_20 dX10_init_23 (fun H locs hI hS => ?_)
  refine lv_aload_n hx hb dX10_init_26 rfl (lv_at hl 0 rfl) ?_
  refine ni_list (i := 2) (k := 2) C hmn hE hRf hRl hl.1 rfl hI hS rfl (by decide) q_239 (by decide +kernel) rfl (by rw [hRc]; exact Nat.le_of_ble_eq_true rfl) (by rw [hRs]; exact Nat.le_of_ble_eq_true rfl) dX10_init_27 dX10_init_30 dX10_init_31 dX10_init_34 (fun H locs hI hS => ?_)
  refine lv_aload_n hx hb dX10_init_37 rfl (lv_at hl 0 rfl) ?_
  refine lv_null hx hb dX10_init_38 ?_
  refine ni_put (i := 3) (k := 3) (v := .null) (ty := .object "FireNet$Sighting") C hmn hI hS (by decide) q_240 (by decide +kernel) rfl rfl rfl dX10_init_39 (fun H locs hI hS => ?_)
  refine lv_aload_n hx hb dX10_init_42 rfl (lv_at hl 0 rfl) ?_
  refine ni_list (i := 3) (k := 4) C hmn hE hRf hRl hl.1 rfl hI hS rfl (by decide) q_241 (by decide +kernel) rfl (by rw [hRc]; exact Nat.le_of_ble_eq_true rfl) (by rw [hRs]; exact Nat.le_of_ble_eq_true rfl) dX10_init_43 dX10_init_46 dX10_init_47 dX10_init_50 (fun H locs hI hS => ?_)
  refine lv_aload_n hx hb dX10_init_53 rfl (lv_at hl 0 rfl) ?_
  refine ni_obj (i := 4) (k := 5) (K := 3) (nm := RX2) (T := TX2) (N := 2) (ic := 29) (ik := 31) (fb := [.long 0, .long 0]) (tn := "FireNet$Crossing") tyX2 tb_X2 tyX2_ok q_84 q_85 q_30 rfl ?_ (k_X2_init l D a (fun z => x ≤ z) (x + (4 + 1))) cwz_31 C hmn hE hRf hRl hl.1 rfl hI hS rfl (by decide) q_242 (by decide +kernel) rfl (by rw [hRc]; exact Nat.le_of_ble_eq_true rfl) (by rw [hRs]; exact Nat.le_of_ble_eq_true rfl) dX10_init_54 dX10_init_57 dX10_init_58 dX10_init_61 (fun H locs hI hS => ?_)
  · intro j hj
    rcases (show j = 0 ∨ j = 1 by omega) with rfl | rfl <;> rfl
  refine lv_aload_n hx hb dX10_init_64 rfl (lv_at hl 0 rfl) ?_
  refine ni_obj (i := 5) (k := 6) (K := 3) (nm := RX2) (T := TX2) (N := 2) (ic := 29) (ik := 31) (fb := [.long 0, .long 0]) (tn := "FireNet$Crossing") tyX2 tb_X2 tyX2_ok q_84 q_85 q_30 rfl ?_ (k_X2_init l D a (fun z => x ≤ z) (x + (5 + 1))) cwz_31 C hmn hE hRf hRl hl.1 rfl hI hS rfl (by decide) q_243 (by decide +kernel) rfl (by rw [hRc]; exact Nat.le_of_ble_eq_true rfl) (by rw [hRs]; exact Nat.le_of_ble_eq_true rfl) dX10_init_65 dX10_init_68 dX10_init_69 dX10_init_72 (fun H locs hI hS => ?_)
  · intro j hj
    rcases (show j = 0 ∨ j = 1 by omega) with rfl | rfl <;> rfl
  refine lv_aload_n hx hb dX10_init_75 rfl (lv_at hl 0 rfl) ?_
  refine ni_list (i := 6) (k := 7) C hmn hE hRf hRl hl.1 rfl hI hS rfl (by decide) q_244 (by decide +kernel) rfl (by rw [hRc]; exact Nat.le_of_ble_eq_true rfl) (by rw [hRs]; exact Nat.le_of_ble_eq_true rfl) dX10_init_76 dX10_init_79 dX10_init_80 dX10_init_83 (fun H locs hI hS => ?_)
  refine lv_aload_n hx hb dX10_init_86 rfl (lv_at hl 0 rfl) ?_
  refine ni_list (i := 7) (k := 8) C hmn hE hRf hRl hl.1 rfl hI hS rfl (by decide) q_245 (by decide +kernel) rfl (by rw [hRc]; exact Nat.le_of_ble_eq_true rfl) (by rw [hRs]; exact Nat.le_of_ble_eq_true rfl) dX10_init_87 dX10_init_90 dX10_init_91 dX10_init_94 (fun H locs hI hS => ?_)
  refine lv_aload_n hx hb dX10_init_97 rfl (lv_at hl 0 rfl) ?_
  refine ni_obj (i := 8) (k := 9) (K := 4) (nm := RX3) (T := TX3) (N := 4) (ic := 45) (ik := 47) (fb := [.long 0, .long 0, .int 0, .int 0]) (tn := "FireNet$Field") tyX3 tb_X3 tyX3_ok q_99 q_100 q_31 rfl ?_ (k_X3_init l D a (fun z => x ≤ z) (x + (8 + 1))) cwz_47 C hmn hE hRf hRl hl.1 rfl hI hS rfl (by decide) q_246 (by decide +kernel) rfl (by rw [hRc]; exact Nat.le_of_ble_eq_true rfl) (by rw [hRs]; exact Nat.le_of_ble_eq_true rfl) dX10_init_98 dX10_init_101 dX10_init_102 dX10_init_105 (fun H locs hI hS => ?_)
  · intro j hj
    rcases (show j = 0 ∨ j = 1 ∨ j = 2 ∨ j = 3 by omega) with rfl | rfl | rfl | rfl <;> rfl
  refine lv_aload_n hx hb dX10_init_108 rfl (lv_at hl 0 rfl) ?_
  refine ni_list (i := 9) (k := 10) C hmn hE hRf hRl hl.1 rfl hI hS rfl (by decide) q_247 (by decide +kernel) rfl (by rw [hRc]; exact Nat.le_of_ble_eq_true rfl) (by rw [hRs]; exact Nat.le_of_ble_eq_true rfl) dX10_init_109 dX10_init_112 dX10_init_113 dX10_init_116 (fun H locs hI hS => ?_)
  refine lv_aload_n hx hb dX10_init_119 rfl (lv_at hl 0 rfl) ?_
  refine lv_bipush (v := 10) hx hb dX10_init_120 (by decide) ?_
  refine ni_arrR (i := 10) (k := 11) hAO C hmn hI hS rfl (by decide) q_248 (by decide +kernel) rfl q_118 (by rw [hRc]; exact Nat.le_of_ble_eq_true rfl) (by rw [hRs]; exact Nat.le_of_ble_eq_true rfl) dX10_init_122 dX10_init_125 (fun H locs hI hS => ?_)
  refine lv_aload_n hx hb dX10_init_128 rfl (lv_at hl 0 rfl) ?_
  refine lv_iconst (v := nI 4) hx hb dX10_init_129 (by decide) ?_
  refine ni_arrI (i := 11) (k := 12) (N := 4) C hmn hI hS rfl (by decide) (by decide) q_249 (by decide +kernel) rfl (by rw [hRc]; exact Nat.le_of_ble_eq_true rfl) (by rw [hRs]; exact Nat.le_of_ble_eq_true rfl) dX10_init_130 dX10_init_132 (fun H locs hI hS => ?_)
  refine lv_aload_n hx hb dX10_init_135 rfl (lv_at hl 0 rfl) ?_
  refine lv_bipush (v := nI 10) hx hb dX10_init_136 (by decide) ?_
  refine ni_arrI (i := 12) (k := 13) (N := 10) C hmn hI hS rfl (by decide) (by decide) q_250 (by decide +kernel) rfl (by rw [hRc]; exact Nat.le_of_ble_eq_true rfl) (by rw [hRs]; exact Nat.le_of_ble_eq_true rfl) dX10_init_138 dX10_init_140 (fun H locs hI hS => ?_)
  rw [xb_fs] at hI
  refine lv_iconst (v := 0) hx hb dX10_init_143 (by decide) ?_
  refine lv_istore_n (lv' := [(1, .int 0), (0, .ref x)]) hx hb dX10_init_144 rfl hl (by decide) rfl (fun ls hl => ?_)
  exact loop 60 0 rfl _ _ (σ00 x) ls ⟨ni_XP hx0 hI, hS⟩ (xi_0 x) hl

