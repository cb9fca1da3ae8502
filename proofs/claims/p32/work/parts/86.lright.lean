def w_L_right_m339 (x : Nat) (p4 : Int32) (p5 : Int32) (K : Int32 → XS → Prop) (μ_339 : MS) (σ_339 : XS) : Prop := (K 1 σ_339)
def w_L_right_l119_333 (x : Nat) (p4 : Int32) (p5 : Int32) (K : Int32 → XS → Prop) (w8_119 : Int32) (μw_119 : MS) (σw_119 : XS) (KC : (Int32 × MS × XS) → Prop) (KE : (Int32 × MS × XS) → Prop) (v8_333 : Int32) (μ_333 : MS) (σ_333 : XS) : Prop := (KC ((v8_333 + 1), μ_333, σ_333))
def w_L_right_l119_294 (x : Nat) (p4 : Int32) (p5 : Int32) (K : Int32 → XS → Prop) (w8_119 : Int32) (μw_119 : MS) (σw_119 : XS) (KC : (Int32 × MS × XS) → Prop) (KE : (Int32 × MS × XS) → Prop) (v8_294 : Int32) (v10_294 : Int32) (t0_294 : Int32) (μ_294 : MS) (σ_294 : XS) : Prop := (of_X10_chance σ_294 x v8_294 t0_294 v10_294 ∧ (rcl (fun _ => f_X10_chance σ_294 x v8_294 t0_294 v10_294) σ_294 (fun v9_23 σ9_24 => (vp_in ((9 * v8_294) + 1) 64 ∧ (wcal (w_L_chance μ_294 (mi μ_294 1 (ix ((9 * v8_294) + 1))) v8_294 t0_294 v10_294) (fun v9_30 => (oif ((lg_cmp v9_23 v9_30) = 0) (w_L_right_l119_333 x p4 p5 K w8_119 μw_119 σw_119 KC KE v8_294 μ_294 σ9_24) (K 0 σ9_24))))))))
def w_L_right_l119_268 (x : Nat) (p4 : Int32) (p5 : Int32) (K : Int32 → XS → Prop) (w8_119 : Int32) (μw_119 : MS) (σw_119 : XS) (KC : (Int32 × MS × XS) → Prop) (KE : (Int32 × MS × XS) → Prop) (v8_268 : Int32) (v9_268 : Int32) (t0_268 : Int64) (μ_268 : MS) (σ_268 : XS) : Prop := (oif ((f_L_low p5 2) = 0) (w_L_right_l119_294 x p4 p5 K w8_119 μw_119 σw_119 KC KE v8_268 (t0_268.toInt32) v9_268 μ_268 σ_268) (w_L_right_l119_294 x p4 p5 K w8_119 μw_119 σw_119 KC KE v8_268 (t0_268.toInt32) (f_L_low (p5 >>> ((1 : Int32) &&& 31)) 100) μ_268 σ_268))
def w_L_right_l119_227 (x : Nat) (p4 : Int32) (p5 : Int32) (K : Int32 → XS → Prop) (w8_119 : Int32) (μw_119 : MS) (σw_119 : XS) (KC : (Int32 × MS × XS) → Prop) (KE : (Int32 × MS × XS) → Prop) (v8_227 : Int32) (t0_227 : Int64) (μ_227 : MS) (σ_227 : XS) : Prop := (oif (0 ≤ (lg_cmp (ml μ_227 4 (ix 4)) 0)) (oif ((lg_cmp (ml μ_227 4 (ix 4)) 9900) ≤ 0) (w_L_right_l119_268 x p4 p5 K w8_119 μw_119 σw_119 KC KE v8_227 (t0_227.toInt32) ((ml μ_227 4 (ix 4)) / 100) μ_227 σ_227) (w_L_right_l119_268 x p4 p5 K w8_119 μw_119 σw_119 KC KE v8_227 (t0_227.toInt32) 99 μ_227 σ_227)) (w_L_right_l119_268 x p4 p5 K w8_119 μw_119 σw_119 KC KE v8_227 (t0_227.toInt32) 0 μ_227 σ_227))
def w_L_right_l119_189 (x : Nat) (p4 : Int32) (p5 : Int32) (K : Int32 → XS → Prop) (w8_119 : Int32) (μw_119 : MS) (σw_119 : XS) (KC : (Int32 × MS × XS) → Prop) (KE : (Int32 × MS × XS) → Prop) (v8_189 : Int32) (μ_189 : MS) (σ_189 : XS) : Prop := (oif (0 ≤ (lg_cmp (ml μ_189 4 (ix 3)) 0)) (oif ((lg_cmp (ml μ_189 4 (ix 3)) 9900) ≤ 0) (w_L_right_l119_227 x p4 p5 K w8_119 μw_119 σw_119 KC KE v8_189 ((ml μ_189 4 (ix 3)) / 100) μ_189 σ_189) (w_L_right_l119_227 x p4 p5 K w8_119 μw_119 σw_119 KC KE v8_189 99 μ_189 σ_189)) (w_L_right_l119_227 x p4 p5 K w8_119 μw_119 σw_119 KC KE v8_189 0 μ_189 σ_189))
def b_L_right_157 (x : Nat) (p4 : Int32) (p5 : Int32) (K : Int32 → XS → Prop) (w8_119 : Int32) (μw_119 : MS) (σw_119 : XS) (v8_157 : Int32) (μ_157 : MS) (σ_157 : XS) (w9_157 : Int32) (KC : Int32 → Prop) (KE : Int32 → Prop) : Prop := (oif (8 ≤ w9_157) (KE w9_157) (of_X10_told σ_157 x v8_157 w9_157 ∧ (rc0 (f_X10_told σ_157 x v8_157 w9_157) (fun v9_38 => (vp_in w9_157 16 ∧ (oif ((lg_cmp v9_38 (ml μ_157 4 (ix w9_157))) = 0) (KC (w9_157 + 1)) (K 0 σ_157)))))))
def w_L_right_l119_157 (x : Nat) (p4 : Int32) (p5 : Int32) (K : Int32 → XS → Prop) (w8_119 : Int32) (μw_119 : MS) (σw_119 : XS) (KC : (Int32 × MS × XS) → Prop) (KE : (Int32 × MS × XS) → Prop) (v8_157 : Int32) (v9_157 : Int32) (μ_157 : MS) (σ_157 : XS) : Prop := (winv 9 (fun (v : Int32) KC KE => b_L_right_157 x p4 p5 K w8_119 μw_119 σw_119 v8_157 μ_157 σ_157 v KC KE) v9_157 (fun (v : Int32) => (w_L_right_l119_189 x p4 p5 K w8_119 μw_119 σw_119 KC KE v8_157 μ_157 σ_157)))
def b_L_right_119 (x : Nat) (p4 : Int32) (p5 : Int32) (K : Int32 → XS → Prop) (w8_119 : Int32) (μw_119 : MS) (σw_119 : XS) (KC : (Int32 × MS × XS) → Prop) (KE : (Int32 × MS × XS) → Prop) : Prop := (oif (p4 ≤ w8_119) (KE (w8_119, μw_119, σw_119)) (wcal (w_L_group μw_119 p4 w8_119) (fun v9_10 => (oif (v9_10 = w8_119) (wcal (w_L_all μw_119 p4 w8_119) (fun gq_16 => (w_L_right_l119_157 x p4 p5 K w8_119 μw_119 σw_119 KC KE w8_119 0 (mQ μw_119 4 gq_16) σw_119))) (w_L_right_l119_333 x p4 p5 K w8_119 μw_119 σw_119 KC KE w8_119 μw_119 σw_119)))))
def w_L_right_m119 (x : Nat) (p4 : Int32) (p5 : Int32) (K : Int32 → XS → Prop) (v8_119 : Int32) (μ_119 : MS) (σ_119 : XS) : Prop := (winv 8 (fun (v : Int32 × MS × XS) KC KE => b_L_right_119 x p4 p5 K v.1 v.2.1 v.2.2 KC KE) (v8_119, μ_119, σ_119) (fun (v : Int32 × MS × XS) => (w_L_right_m339 x p4 p5 K v.2.1 v.2.2)))
def w_L_right_m110 (x : Nat) (p4 : Int32) (p5 : Int32) (K : Int32 → XS → Prop) (μ_110 : MS) (σ_110 : XS) : Prop := (w_L_right_m119 x p4 p5 K 0 (mZJ μ_110 4) σ_110)
def b_L_right_82 (x : Nat) (p4 : Int32) (p5 : Int32) (K : Int32 → XS → Prop) (μ_82 : MS) (σ_82 : XS) (w7_82 : Int32) (KC : Int32 → Prop) (KE : Int32 → Prop) : Prop := (oif (4 ≤ w7_82) (KE w7_82) (of_X10_fireballs σ_82 x w7_82 ∧ (rc0 (f_X10_fireballs σ_82 x w7_82) (fun v9_47 => (vp_in w7_82 4 ∧ (oif (v9_47 = (mi μ_82 3 (ix w7_82))) (KC (w7_82 + 1)) (K 0 σ_82)))))))
def w_L_right_m82 (x : Nat) (p4 : Int32) (p5 : Int32) (K : Int32 → XS → Prop) (v7_82 : Int32) (μ_82 : MS) (σ_82 : XS) : Prop := (winv 5 (fun (v : Int32) KC KE => b_L_right_82 x p4 p5 K μ_82 σ_82 v KC KE) v7_82 (fun (v : Int32) => (w_L_right_m110 x p4 p5 K μ_82 σ_82)))
def w_L_right_m79 (x : Nat) (p4 : Int32) (p5 : Int32) (K : Int32 → XS → Prop) (μ_79 : MS) (σ_79 : XS) : Prop := (w_L_right_m82 x p4 p5 K 0 μ_79 σ_79)
def w_L_right_l8_73 (x : Nat) (p4 : Int32) (p5 : Int32) (K : Int32 → XS → Prop) (w7_8 : Int32) (μw_8 : MS) (σw_8 : XS) (KC : (Int32 × MS × XS) → Prop) (KE : (Int32 × MS × XS) → Prop) (v7_73 : Int32) (μ_73 : MS) (σ_73 : XS) : Prop := (KC ((v7_73 + 1), μ_73, σ_73))
def b_L_right_8 (x : Nat) (p4 : Int32) (p5 : Int32) (K : Int32 → XS → Prop) (w7_8 : Int32) (μw_8 : MS) (σw_8 : XS) (KC : (Int32 × MS × XS) → Prop) (KE : (Int32 × MS × XS) → Prop) : Prop := (oif (p4 ≤ w7_8) (KE (w7_8, μw_8, σw_8)) (wcal (w_L_group μw_8 p4 w7_8) (fun v9_59 => (of_X10_fireball σw_8 x w7_8 ∧ (rc0 (f_X10_fireball σw_8 x w7_8) (fun v9_61 => (oif (v9_61 = v9_59) (of_X10_fireballAnew σw_8 x w7_8 ∧ (rcl (fun _ => f_X10_fireballAnew σw_8 x w7_8) σw_8 (fun v9_64 σ9_65 => (oif (v9_64 = v9_59) (oif (v9_59 = w7_8) (vp_in ((9 * w7_8) + 1) 64 ∧ (vp_in (mi μw_8 1 (ix ((9 * w7_8) + 1))) 4 ∧ (vp_in (mi μw_8 1 (ix ((9 * w7_8) + 1))) 4 ∧ (w_L_right_l8_73 x p4 p5 K w7_8 μw_8 σw_8 KC KE w7_8 (mI μw_8 3 (ix (mi μw_8 1 (ix ((9 * w7_8) + 1)))) ((mi μw_8 3 (ix (mi μw_8 1 (ix ((9 * w7_8) + 1))))) + 1)) σ9_65)))) (w_L_right_l8_73 x p4 p5 K w7_8 μw_8 σw_8 KC KE w7_8 μw_8 σ9_65)) (K 0 σ9_65))))) (K 0 σw_8))))))))
def w_L_right_m8 (x : Nat) (p4 : Int32) (p5 : Int32) (K : Int32 → XS → Prop) (v7_8 : Int32) (μ_8 : MS) (σ_8 : XS) : Prop := (winv 8 (fun (v : Int32 × MS × XS) KC KE => b_L_right_8 x p4 p5 K v.1 v.2.1 v.2.2 KC KE) (v7_8, μ_8, σ_8) (fun (v : Int32 × MS × XS) => (w_L_right_m79 x p4 p5 K v.2.1 v.2.2)))
def w_L_right (μ : MS) (σ : XS) (x : Nat) (p4 : Int32) (p5 : Int32) (K : Int32 → XS → Prop) : Prop := (w_L_right_m8 x p4 p5 K 0 (mZI μ 3) σ)
set_option maxHeartbeats 4000000 in
set_option maxRecDepth 100000 in
theorem k_L_right (l : Launch) (D : va_G) (a : Nat → ClassId) (x e0 : Nat) (A : Nat → Prop) (hfl : l.stackTraces = false) (q0 : Nat) (q1 : Nat) (q2 : Nat) (μ : MS) (σ : XS) (p4 : Int32) (p5 : Int32) (K : Int32 → XS → Prop) (hnA : ∀ (k : Nat) (r : Nat × va_E), ([(q0, .inl (a 0, 16, .inl (μ.1 0))), (q1, .inl (a 0, 64, .inl (μ.1 1))), (q2, .inl (a 0, 64, .inl (μ.1 2)))] : va_W)[k]? = some r → ¬ A r.1) (hok : w_L_right μ σ x p4 p5 K) : KG l yL_right cL_right 11 (some .boolean) 9 169 41751 168354 [.ref x, .ref q0, .ref q1, .ref q2, .int p4, .int p5] A (BRa D a x e0 A σ [(q0, .inl (a 0, 16, .inl (μ.1 0))), (q1, .inl (a 0, 64, .inl (μ.1 1))), (q2, .inl (a 0, 64, .inl (μ.1 2)))]) (fun _ v H1 => ∃ (v9 : Int32) (σ9 : XS), K v9 σ9 ∧ v = some (.int v9) ∧ XP D a x e0 A σ9 H1) := by
  refine goGz (D := D) (a := a) (by decide +kernel) bra_good (Nat.le_of_ble_eq_true rfl) ?_
  intro p e s m args below meth c ls R Q hRf hRl hRc hRs C hB hl ret
  obtain ⟨hE, hX, hP, hD⟩ := hB
  have hAf : ∀ q, s.heap.size ≤ q → A q := hE.2.2.2.2.2.1
  have hM : HL D a x e0 A [(q0, .inl (a 0, 16, .inl (μ.1 0))), (q1, .inl (a 0, 64, .inl (μ.1 1))), (q2, .inl (a 0, 64, .inl (μ.1 2)))] (some σ) s.heap s.heap [] := ⟨hP, hD, va_S.rf, XO.mono (ξ := some σ) (B := A) hX (fun q h _ => ⟨h, fun k r hk g => hnA k r hk (by rw [← g]; exact h)⟩) (fun _ _ _ => rfl)⟩
  have hl : lv_has ls 11 [(0, .ref x), (1, .ref q0), (2, .ref q1), (3, .ref q2), (4, .int p4), (5, .int p5)] := hl
  have hx := C.1.1
  have hb := C.1.2.1
  have hts := C.1.2.2.2.2
  have hown := C.1.2.2.2.1
  have J_m339 : ∀  (μ_339 : MS) (σ_339 : XS), w_L_right_m339 x p4 p5 K μ_339 σ_339 → ∀ (H : Heap) (locs : List Loc) (ls : Array Slot), HL D a x e0 A [(q0, .inl (a 0, 16, .inl (μ_339.1 0))), (q1, .inl (a 0, 64, .inl (μ_339.1 1))), (q2, .inl (a 0, 64, .inl (μ_339.1 2)))] (some σ_339) s.heap H locs → lv_has ls 11 [] → W p l e R s m args below meth c H locs 41751 168354 Q (F0 m 339 ls []) := by
    intro μ_339 σ_339 hok H locs ls hM hl
    refine lv_iconst (v := 1) hx hb dL_right_339 (by decide) ?_
    refine W.widen (k := 41751) (n := 168354) (by omega) (by omega) ?_
    exact ret _ _ _ _ _ hM.2.2.1 dL_right_340 (by unfold zb; decide) ⟨_, _, hok, rfl, hM.2.2.2.mono (fun q h _ => h.1) (fun _ _ _ => rfl)⟩
  have J_m119 : ∀ (q4 : Nat) (hA4 : A q4) (v8_119 : Int32) (μ_119 : MS) (σ_119 : XS), w_L_right_m119 x p4 p5 K v8_119 μ_119 σ_119 → ∀ (H : Heap) (locs : List Loc) (ls : Array Slot), HL D a x e0 A [(q0, .inl (a 0, 16, .inl (μ_119.1 0))), (q1, .inl (a 0, 64, .inl (μ_119.1 1))), (q2, .inl (a 0, 64, .inl (μ_119.1 2))), (q4, .inl (a 1, 16, .inr (.inl (μ_119.2 4))))] (some σ_119) s.heap H locs → lv_has ls 11 [(0, .ref x), (1, .ref q0), (2, .ref q1), (3, .ref q2), (4, .int p4), (5, .int p5), (7, .ref q4), (8, .int v8_119)] → W p l e R s m args below meth c H locs 4127 16658 Q (F0 m 119 ls []) := by
    intro q4 hA4 v8_119 μ_119 σ_119 hok H locs ls hM hl
    obtain ⟨I9_1, i9_2, n9_3, s9_4⟩ := hok
    refine inv_W (I := I9_1) (fun (n : Nat) (v : Int32 × MS × XS) => ∀ (k j : Nat) (H : Heap) (locs : List Loc) (ls : Array Slot), k + bud n 4703 ≤ 41751 → j + bud n 18962 ≤ 168354 → HL D a x e0 A [(q0, .inl (a 0, 16, .inl (v.2.1.1 0))), (q1, .inl (a 0, 64, .inl (v.2.1.1 1))), (q2, .inl (a 0, 64, .inl (v.2.1.1 2))), (q4, .inl (a 1, 16, .inr (.inl (v.2.1.2 4))))] (some v.2.2) s.heap H locs → lv_has ls 11 [(0, .ref x), (1, .ref q0), (2, .ref q1), (3, .ref q2), (4, .int p4), (5, .int p5), (7, .ref q4), (8, .int v.1)] → W p l e R s m args below meth c H locs k j Q (F0 m 119 ls [])) n9_3 (fun n_119 v hI9 kc9 => ?_) 8 (v8_119, μ_119, σ_119) i9_2 _ _ _ _ ls (bud_e (t := 37624) (by omega) rfl) (bud_e (t := 151696) (by omega) rfl) hM (lv_sub hl [0, 1, 2, 3, 4, 5, 6, 7] rfl)
    obtain ⟨w8_119, μw_119, σw_119⟩ := v
    have hok : b_L_right_119 x p4 p5 K w8_119 μw_119 σw_119 (I9_1 n_119) (fun (v : Int32 × MS × XS) => (w_L_right_m339 x p4 p5 K v.2.1 v.2.2)) := s9_4 n_119 (w8_119, μw_119, σw_119) hI9
    intro k_119 j_119 H locs ls hk_119 hj_119 hM hl
    replace hk_119 := bud_s hk_119
    replace hj_119 := bud_s hj_119
    have J_l119_333 : ∀  (v8_333 : Int32) (μ_333 : MS) (σ_333 : XS), w_L_right_l119_333 x p4 p5 K w8_119 μw_119 σw_119 (I9_1 n_119) (fun (v : Int32 × MS × XS) => (w_L_right_m339 x p4 p5 K v.2.1 v.2.2)) v8_333 μ_333 σ_333 → ∀ (H : Heap) (locs : List Loc) (ls : Array Slot), HL D a x e0 A [(q0, .inl (a 0, 16, .inl (μ_333.1 0))), (q1, .inl (a 0, 64, .inl (μ_333.1 1))), (q2, .inl (a 0, 64, .inl (μ_333.1 2))), (q4, .inl (a 1, 16, .inr (.inl (μ_333.2 4))))] (some σ_333) s.heap H locs → lv_has ls 11 [(0, .ref x), (1, .ref q0), (2, .ref q1), (3, .ref q2), (4, .int p4), (5, .int p5), (7, .ref q4), (8, .int v8_333)] → W p l e R s m args below meth c H locs (k_119 + 4703) (j_119 + 18962) Q (F0 m 333 ls []) := by
      intro v8_333 μ_333 σ_333 hok H locs ls hM hl
      refine lv_iinc (v := (v8_333 + 1)) (lv' := [(8, .int (v8_333 + 1)), (0, .ref x), (1, .ref q0), (2, .ref q1), (3, .ref q2), (4, .int p4), (5, .int p5), (7, .ref q4)]) hx hb dL_right_333 hl (k := 7) rfl rfl (by decide) rfl (fun ls hl => ?_)
      refine lv_goto (tgt := 119) hx hb dL_right_336 (by decide) ?_
      exact kc9 ((v8_333 + 1), μ_333, σ_333) hok _ _ _ _ _ (by omega) (by omega) hM (lv_sub hl [1, 2, 3, 4, 5, 6, 7, 0] rfl)
    have J_l119_294 : ∀  (v8_294 : Int32) (v10_294 : Int32) (t0_294 : Int32) (μ_294 : MS) (σ_294 : XS), w_L_right_l119_294 x p4 p5 K w8_119 μw_119 σw_119 (I9_1 n_119) (fun (v : Int32 × MS × XS) => (w_L_right_m339 x p4 p5 K v.2.1 v.2.2)) v8_294 v10_294 t0_294 μ_294 σ_294 → ∀ (H : Heap) (locs : List Loc) (ls : Array Slot), HL D a x e0 A [(q0, .inl (a 0, 16, .inl (μ_294.1 0))), (q1, .inl (a 0, 64, .inl (μ_294.1 1))), (q2, .inl (a 0, 64, .inl (μ_294.1 2))), (q4, .inl (a 1, 16, .inr (.inl (μ_294.2 4))))] (some σ_294) s.heap H locs → lv_has ls 11 [(0, .ref x), (1, .ref q0), (2, .ref q1), (3, .ref q2), (4, .int p4), (5, .int p5), (7, .ref q4), (8, .int v8_294), (10, .int v10_294)] → W p l e R s m args below meth c H locs (k_119 + 4700) (j_119 + 18944) Q (F0 m 294 ls [.int t0_294]) := by
      intro v8_294 v10_294 t0_294 μ_294 σ_294 hok H locs ls hM hl
      refine lv_istore (lv' := [(9, .int t0_294), (0, .ref x), (1, .ref q0), (2, .ref q1), (3, .ref q2), (4, .int p4), (5, .int p5), (7, .ref q4), (8, .int v8_294), (10, .int v10_294)]) hx hb dL_right_294 hl (by decide) rfl (fun ls hl => ?_)
      refine lv_aload_n hx hb dL_right_296 rfl (lv_at hl 1 rfl) ?_
      refine lv_iload hx hb dL_right_297 (lv_at hl 8 rfl) ?_
      refine lv_iload hx hb dL_right_299 (lv_at hl 0 rfl) ?_
      refine lv_iload hx hb dL_right_301 (lv_at hl 9 rfl) ?_
      have ok_22 := And.left hok
      have hok := And.right hok
      refine lx_m (av := [.int v8_294, .int t0_294, .int v10_294]) C hM hE hok (fun B => k_X10_chance l D a x e0 B hfl σ_294 v8_294 t0_294 v10_294 ok_22) cw_L_74 (okR_of hRf hRl (Nat.le_of_ble_eq_true rfl) (Nat.le_of_ble_eq_true rfl)) rfl rfl hl.1 (Nat.le_of_ble_eq_true rfl) (by omega) (by omega) dL_right_303 (fun v9_23 σ9_24 H locs hok hM => ?_)
      have hM : HL D a x e0 A [(q0, .inl (a 0, 16, .inl (μ_294.1 0))), (q1, .inl (a 0, 64, .inl (μ_294.1 1))), (q2, .inl (a 0, 64, .inl (μ_294.1 2))), (q4, .inl (a 1, 16, .inr (.inl (μ_294.2 4))))] (some σ9_24) s.heap H locs := hM
      refine lv_aload_n hx hb dL_right_306 rfl (lv_at hl 4 rfl) ?_
      refine lv_aload hx hb dL_right_307 (lv_at hl 7 rfl) ?_
      refine lv_aload_n hx hb dL_right_309 rfl (lv_at hl 3 rfl) ?_
      refine lv_bipush (v := 9) hx hb dL_right_310 (by decide) ?_
      refine lv_iload hx hb dL_right_312 (lv_at hl 8 rfl) ?_
      refine lv_imul hx hb dL_right_314 ?_
      refine lv_iconst (v := 1) hx hb dL_right_315 (by decide) ?_
      refine lv_iadd hx hb dL_right_316 ?_
      have ok_25 := And.left hok
      have hok := And.right hok
      refine la_I C hM 1 rfl ok_25 dL_right_317 ?_
      refine lv_iload hx hb dL_right_318 (lv_at hl 8 rfl) ?_
      refine lv_iload hx hb dL_right_320 (lv_at hl 0 rfl) ?_
      refine lv_iload hx hb dL_right_322 (lv_at hl 9 rfl) ?_
      obtain ⟨S9_26, w9_27, g9_28⟩ := hok
      refine lc_0 (av := [.ref q2, .ref q4, .int (mi μ_294 1 (ix ((9 * v8_294) + 1))), .int v8_294, .int t0_294, .int v10_294]) C hM hAf [2, 3] rfl rfl (fun A9 => k_L_chance l D a A9 q2 q4 μ_294 (mi μ_294 1 (ix ((9 * v8_294) + 1))) v8_294 t0_294 v10_294 S9_26 w9_27) cw_L_78 (okR_of hRf hRl (Nat.le_of_ble_eq_true rfl) (Nat.le_of_ble_eq_true rfl)) rfl rfl hl.1 (Nat.le_of_ble_eq_true rfl) (by omega) (by omega) dL_right_324 (fun H locs v9 hM hP9 => ?_)
      obtain ⟨v9_30, hS_29, rfl⟩ := hP9
      have hM : HL D a x e0 A [(q0, .inl (a 0, 16, .inl (μ_294.1 0))), (q1, .inl (a 0, 64, .inl (μ_294.1 1))), (q2, .inl (a 0, 64, .inl (μ_294.1 2))), (q4, .inl (a 1, 16, .inr (.inl (μ_294.2 4))))] (some σ9_24) s.heap H locs := hM
      have hok := g9_28 v9_30 hS_29
      refine W.lcmp hx hb dL_right_327 ?_
      refine lv_if_eq (tgt := 333) hx hb dL_right_328 (by decide) (fun c_31 => ?_) (fun c_31 => ?_)
      · have hok := oif_pos hok c_31
        refine W.widen (k := (k_119 + 4703)) (n := (j_119 + 18962)) (by omega) (by omega) ?_
        exact J_l119_333 v8_294 μ_294 σ9_24 hok _ _ ls hM (lv_sub hl [1, 2, 3, 4, 5, 6, 7, 8] rfl)
      · have hok := oif_neg hok c_31
        refine lv_iconst (v := 0) hx hb dL_right_331 (by decide) ?_
        refine W.widen (k := 41751) (n := 168354) (by omega) (by omega) ?_
        exact ret _ _ _ _ _ hM.2.2.1 dL_right_332 (by unfold zb; decide) ⟨_, _, hok, rfl, hM.2.2.2.mono (fun q h _ => h.1) (fun _ _ _ => rfl)⟩
    have J_l119_268 : ∀  (v8_268 : Int32) (v9_268 : Int32) (t0_268 : Int64) (μ_268 : MS) (σ_268 : XS), w_L_right_l119_268 x p4 p5 K w8_119 μw_119 σw_119 (I9_1 n_119) (fun (v : Int32 × MS × XS) => (w_L_right_m339 x p4 p5 K v.2.1 v.2.2)) v8_268 v9_268 t0_268 μ_268 σ_268 → ∀ (H : Heap) (locs : List Loc) (ls : Array Slot), HL D a x e0 A [(q0, .inl (a 0, 16, .inl (μ_268.1 0))), (q1, .inl (a 0, 64, .inl (μ_268.1 1))), (q2, .inl (a 0, 64, .inl (μ_268.1 2))), (q4, .inl (a 1, 16, .inr (.inl (μ_268.2 4))))] (some σ_268) s.heap H locs → lv_has ls 11 [(0, .ref x), (1, .ref q0), (2, .ref q1), (3, .ref q2), (4, .int p4), (5, .int p5), (7, .ref q4), (8, .int v8_268), (9, .int v9_268)] → W p l e R s m args below meth c H locs (k_119 + 4700) (j_119 + 18944) Q (F0 m 268 ls [.long t0_268]) := by
      intro v8_268 v9_268 t0_268 μ_268 σ_268 hok H locs ls hM hl
      refine lv_l2i (v := (t0_268.toInt32)) hx hb dL_right_268 rfl ?_
      refine lv_istore (lv' := [(10, .int (t0_268.toInt32)), (0, .ref x), (1, .ref q0), (2, .ref q1), (3, .ref q2), (4, .int p4), (5, .int p5), (7, .ref q4), (8, .int v8_268), (9, .int v9_268)]) hx hb dL_right_269 hl (by decide) rfl (fun ls hl => ?_)
      refine lv_iload hx hb dL_right_271 (lv_at hl 6 rfl) ?_
      refine lv_iconst (v := 2) hx hb dL_right_273 (by decide) ?_
      refine lc_S (av := [.int p5, .int 2]) C (k_L_low l D a p5 2 (by decide)) cw_L_70 (okR_of hRf hRl (Nat.le_of_ble_eq_true rfl) (Nat.le_of_ble_eq_true rfl)) rfl rfl hl.1 (Nat.le_of_ble_eq_true rfl) (by omega) (by omega) dL_right_274 ?_
      refine lv_if_ne (tgt := 285) hx hb dL_right_277 (by decide) (fun c_21 => ?_) (fun c_21 => ?_)
      · have hok := oif_neg hok c_21
        refine lv_iload hx hb dL_right_285 (lv_at hl 6 rfl) ?_
        refine lv_iconst (v := 1) hx hb dL_right_287 (by decide) ?_
        refine lv_ishr hx hb dL_right_288 ?_
        refine lv_bipush (v := 100) hx hb dL_right_289 (by decide) ?_
        refine lc_S (av := [.int (p5 >>> ((1 : Int32) &&& 31)), .int 100]) C (k_L_low l D a (p5 >>> ((1 : Int32) &&& 31)) 100 (by decide)) cw_L_70 (okR_of hRf hRl (Nat.le_of_ble_eq_true rfl) (Nat.le_of_ble_eq_true rfl)) rfl rfl hl.1 (Nat.le_of_ble_eq_true rfl) (by omega) (by omega) dL_right_291 ?_
        refine W.widen (k := (k_119 + 4700)) (n := (j_119 + 18944)) (by omega) (by omega) ?_
        exact J_l119_294 v8_268 (t0_268.toInt32) (f_L_low (p5 >>> ((1 : Int32) &&& 31)) 100) μ_268 σ_268 hok _ _ ls hM (lv_sub hl [1, 2, 3, 4, 5, 6, 7, 8, 0] rfl)
      · have hok := oif_pos hok c_21
        refine lv_iload hx hb dL_right_280 (lv_at hl 9 rfl) ?_
        refine lv_goto (tgt := 294) hx hb dL_right_282 (by decide) ?_
        refine W.widen (k := (k_119 + 4700)) (n := (j_119 + 18944)) (by omega) (by omega) ?_
        exact J_l119_294 v8_268 (t0_268.toInt32) v9_268 μ_268 σ_268 hok _ _ ls hM (lv_sub hl [1, 2, 3, 4, 5, 6, 7, 8, 0] rfl)
    have J_l119_227 : ∀  (v8_227 : Int32) (t0_227 : Int64) (μ_227 : MS) (σ_227 : XS), w_L_right_l119_227 x p4 p5 K w8_119 μw_119 σw_119 (I9_1 n_119) (fun (v : Int32 × MS × XS) => (w_L_right_m339 x p4 p5 K v.2.1 v.2.2)) v8_227 t0_227 μ_227 σ_227 → ∀ (H : Heap) (locs : List Loc) (ls : Array Slot), HL D a x e0 A [(q0, .inl (a 0, 16, .inl (μ_227.1 0))), (q1, .inl (a 0, 64, .inl (μ_227.1 1))), (q2, .inl (a 0, 64, .inl (μ_227.1 2))), (q4, .inl (a 1, 16, .inr (.inl (μ_227.2 4))))] (some σ_227) s.heap H locs → lv_has ls 11 [(0, .ref x), (1, .ref q0), (2, .ref q1), (3, .ref q2), (4, .int p4), (5, .int p5), (7, .ref q4), (8, .int v8_227)] → W p l e R s m args below meth c H locs (k_119 + 4700) (j_119 + 18944) Q (F0 m 227 ls [.long t0_227]) := by
      intro v8_227 t0_227 μ_227 σ_227 hok H locs ls hM hl
      refine lv_l2i (v := (t0_227.toInt32)) hx hb dL_right_227 rfl ?_
      refine lv_istore (lv' := [(9, .int (t0_227.toInt32)), (0, .ref x), (1, .ref q0), (2, .ref q1), (3, .ref q2), (4, .int p4), (5, .int p5), (7, .ref q4), (8, .int v8_227)]) hx hb dL_right_228 hl (by decide) rfl (fun ls hl => ?_)
      refine lv_aload hx hb dL_right_230 (lv_at hl 7 rfl) ?_
      refine lv_iconst (v := 4) hx hb dL_right_232 (by decide) ?_
      refine la_J C hM 3 rfl (lit_in (by decide) (by decide)) dL_right_233 ?_
      refine lv_lconst (v := 0) hx hb dL_right_234 (by decide) ?_
      refine W.lcmp hx hb dL_right_235 ?_
      refine lv_if_ge (tgt := 243) hx hb dL_right_236 (by decide) (fun c_19 => ?_) (fun c_19 => ?_)
      · have hok := oif_pos hok c_19
        refine lv_aload hx hb dL_right_243 (lv_at hl 7 rfl) ?_
        refine lv_iconst (v := 4) hx hb dL_right_245 (by decide) ?_
        refine la_J C hM 3 rfl (lit_in (by decide) (by decide)) dL_right_246 ?_
        refine lv_ldc2 (v := 9900) hx hb hown (hts _ q_902) dL_right_247 ?_
        refine W.lcmp hx hb dL_right_250 ?_
        refine lv_if_le (tgt := 260) hx hb dL_right_251 (by decide) (fun c_20 => ?_) (fun c_20 => ?_)
        · have hok := oif_pos hok c_20
          refine lv_aload hx hb dL_right_260 (lv_at hl 7 rfl) ?_
          refine lv_iconst (v := 4) hx hb dL_right_262 (by decide) ?_
          refine la_J C hM 3 rfl (lit_in (by decide) (by decide)) dL_right_263 ?_
          refine lv_ldc2 (v := 100) hx hb hown (hts _ q_846) dL_right_264 ?_
          refine lv_ldiv hx hb dL_right_267 (by decide) ?_
          refine W.widen (k := (k_119 + 4700)) (n := (j_119 + 18944)) (by omega) (by omega) ?_
          exact J_l119_268 v8_227 (t0_227.toInt32) ((ml μ_227 4 (ix 4)) / 100) μ_227 σ_227 hok _ _ ls hM (lv_sub hl [1, 2, 3, 4, 5, 6, 7, 8, 0] rfl)
        · have hok := oif_neg hok c_20
          refine lv_ldc2 (v := 99) hx hb hown (hts _ q_903) dL_right_254 ?_
          refine lv_goto (tgt := 268) hx hb dL_right_257 (by decide) ?_
          refine W.widen (k := (k_119 + 4700)) (n := (j_119 + 18944)) (by omega) (by omega) ?_
          exact J_l119_268 v8_227 (t0_227.toInt32) 99 μ_227 σ_227 hok _ _ ls hM (lv_sub hl [1, 2, 3, 4, 5, 6, 7, 8, 0] rfl)
      · have hok := oif_neg hok c_19
        refine lv_lconst (v := 0) hx hb dL_right_239 (by decide) ?_
        refine lv_goto (tgt := 268) hx hb dL_right_240 (by decide) ?_
        refine W.widen (k := (k_119 + 4700)) (n := (j_119 + 18944)) (by omega) (by omega) ?_
        exact J_l119_268 v8_227 (t0_227.toInt32) 0 μ_227 σ_227 hok _ _ ls hM (lv_sub hl [1, 2, 3, 4, 5, 6, 7, 8, 0] rfl)
    have J_l119_189 : ∀  (v8_189 : Int32) (μ_189 : MS) (σ_189 : XS), w_L_right_l119_189 x p4 p5 K w8_119 μw_119 σw_119 (I9_1 n_119) (fun (v : Int32 × MS × XS) => (w_L_right_m339 x p4 p5 K v.2.1 v.2.2)) v8_189 μ_189 σ_189 → ∀ (H : Heap) (locs : List Loc) (ls : Array Slot), HL D a x e0 A [(q0, .inl (a 0, 16, .inl (μ_189.1 0))), (q1, .inl (a 0, 64, .inl (μ_189.1 1))), (q2, .inl (a 0, 64, .inl (μ_189.1 2))), (q4, .inl (a 1, 16, .inr (.inl (μ_189.2 4))))] (some σ_189) s.heap H locs → lv_has ls 11 [(0, .ref x), (1, .ref q0), (2, .ref q1), (3, .ref q2), (4, .int p4), (5, .int p5), (7, .ref q4), (8, .int v8_189)] → W p l e R s m args below meth c H locs (k_119 + 4700) (j_119 + 18944) Q (F0 m 189 ls []) := by
      intro v8_189 μ_189 σ_189 hok H locs ls hM hl
      refine lv_aload hx hb dL_right_189 (lv_at hl 6 rfl) ?_
      refine lv_iconst (v := 3) hx hb dL_right_191 (by decide) ?_
      refine la_J C hM 3 rfl (lit_in (by decide) (by decide)) dL_right_192 ?_
      refine lv_lconst (v := 0) hx hb dL_right_193 (by decide) ?_
      refine W.lcmp hx hb dL_right_194 ?_
      refine lv_if_ge (tgt := 202) hx hb dL_right_195 (by decide) (fun c_17 => ?_) (fun c_17 => ?_)
      · have hok := oif_pos hok c_17
        refine lv_aload hx hb dL_right_202 (lv_at hl 6 rfl) ?_
        refine lv_iconst (v := 3) hx hb dL_right_204 (by decide) ?_
        refine la_J C hM 3 rfl (lit_in (by decide) (by decide)) dL_right_205 ?_
        refine lv_ldc2 (v := 9900) hx hb hown (hts _ q_902) dL_right_206 ?_
        refine W.lcmp hx hb dL_right_209 ?_
        refine lv_if_le (tgt := 219) hx hb dL_right_210 (by decide) (fun c_18 => ?_) (fun c_18 => ?_)
        · have hok := oif_pos hok c_18
          refine lv_aload hx hb dL_right_219 (lv_at hl 6 rfl) ?_
          refine lv_iconst (v := 3) hx hb dL_right_221 (by decide) ?_
          refine la_J C hM 3 rfl (lit_in (by decide) (by decide)) dL_right_222 ?_
          refine lv_ldc2 (v := 100) hx hb hown (hts _ q_846) dL_right_223 ?_
          refine lv_ldiv hx hb dL_right_226 (by decide) ?_
          refine W.widen (k := (k_119 + 4700)) (n := (j_119 + 18944)) (by omega) (by omega) ?_
          exact J_l119_227 v8_189 ((ml μ_189 4 (ix 3)) / 100) μ_189 σ_189 hok _ _ ls hM (lv_sub hl [0, 1, 2, 3, 4, 5, 6, 7] rfl)
        · have hok := oif_neg hok c_18
          refine lv_ldc2 (v := 99) hx hb hown (hts _ q_903) dL_right_213 ?_
          refine lv_goto (tgt := 227) hx hb dL_right_216 (by decide) ?_
          refine W.widen (k := (k_119 + 4700)) (n := (j_119 + 18944)) (by omega) (by omega) ?_
          exact J_l119_227 v8_189 99 μ_189 σ_189 hok _ _ ls hM (lv_sub hl [0, 1, 2, 3, 4, 5, 6, 7] rfl)
      · have hok := oif_neg hok c_17
        refine lv_lconst (v := 0) hx hb dL_right_198 (by decide) ?_
        refine lv_goto (tgt := 227) hx hb dL_right_199 (by decide) ?_
        refine W.widen (k := (k_119 + 4700)) (n := (j_119 + 18944)) (by omega) (by omega) ?_
        exact J_l119_227 v8_189 0 μ_189 σ_189 hok _ _ ls hM (lv_sub hl [0, 1, 2, 3, 4, 5, 6, 7] rfl)
    have J_l119_157 : ∀  (v8_157 : Int32) (v9_157 : Int32) (μ_157 : MS) (σ_157 : XS), w_L_right_l119_157 x p4 p5 K w8_119 μw_119 σw_119 (I9_1 n_119) (fun (v : Int32 × MS × XS) => (w_L_right_m339 x p4 p5 K v.2.1 v.2.2)) v8_157 v9_157 μ_157 σ_157 → ∀ (H : Heap) (locs : List Loc) (ls : Array Slot), HL D a x e0 A [(q0, .inl (a 0, 16, .inl (μ_157.1 0))), (q1, .inl (a 0, 64, .inl (μ_157.1 1))), (q2, .inl (a 0, 64, .inl (μ_157.1 2))), (q4, .inl (a 1, 16, .inr (.inl (μ_157.2 4))))] (some σ_157) s.heap H locs → lv_has ls 11 [(0, .ref x), (1, .ref q0), (2, .ref q1), (3, .ref q2), (4, .int p4), (5, .int p5), (7, .ref q4), (8, .int v8_157), (9, .int v9_157)] → W p l e R s m args below meth c H locs (k_119 + 4682) (j_119 + 18836) Q (F0 m 157 ls []) := by
      intro v8_157 v9_157 μ_157 σ_157 hok H locs ls hM hl
      obtain ⟨I9_32, i9_33, n9_34, s9_35⟩ := hok
      refine inv_W (I := I9_32) (fun (n : Nat) (v : Int32) => ∀ (k j : Nat) (H : Heap) (locs : List Loc) (ls : Array Slot), k + bud n 2 ≤ (k_119 + 4700) → j + bud n 12 ≤ (j_119 + 18944) → HL D a x e0 A [(q0, .inl (a 0, 16, .inl (μ_157.1 0))), (q1, .inl (a 0, 64, .inl (μ_157.1 1))), (q2, .inl (a 0, 64, .inl (μ_157.1 2))), (q4, .inl (a 1, 16, .inr (.inl (μ_157.2 4))))] (some σ_157) s.heap H locs → lv_has ls 11 [(0, .ref x), (1, .ref q0), (2, .ref q1), (3, .ref q2), (4, .int p4), (5, .int p5), (7, .ref q4), (8, .int v8_157), (9, .int v)] → W p l e R s m args below meth c H locs k j Q (F0 m 157 ls [])) n9_34 (fun n_157 v hI9 kc9 => ?_) 9 v9_157 i9_33 _ _ _ _ ls (bud_e (t := 18) (by omega) rfl) (bud_e (t := 108) (by omega) rfl) hM (lv_sub hl [0, 1, 2, 3, 4, 5, 6, 7, 8] rfl)
      obtain ⟨w9_157, rfl⟩ : ∃ z, z = v := ⟨_, rfl⟩
      have hok : b_L_right_157 x p4 p5 K w8_119 μw_119 σw_119 v8_157 μ_157 σ_157 w9_157 (I9_32 n_157) (fun (v : Int32) => (w_L_right_l119_189 x p4 p5 K w8_119 μw_119 σw_119 (I9_1 n_119) (fun (v : Int32 × MS × XS) => (w_L_right_m339 x p4 p5 K v.2.1 v.2.2)) v8_157 μ_157 σ_157)) := s9_35 n_157 (w9_157) hI9
      intro k_157 j_157 H locs ls hk_157 hj_157 hM hl
      replace hk_157 := bud_s hk_157
      replace hj_157 := bud_s hj_157
      refine lv_iload hx hb dL_right_157 (lv_at hl 8 rfl) ?_
      refine lv_bipush (v := 8) hx hb dL_right_159 (by decide) ?_
      refine lv_icmp_ge (tgt := 189) hx hb dL_right_161 (by decide) (fun c_36 => ?_) (fun c_36 => ?_)
      · have hok := oif_pos hok c_36
        refine W.widen (k := (k_119 + 4700)) (n := (j_119 + 18944)) (by omega) (by omega) ?_
        exact J_l119_189 v8_157 μ_157 σ_157 hok _ _ ls hM (lv_sub hl [0, 1, 2, 3, 4, 5, 6, 7] rfl)
      · have hok := oif_neg hok c_36
        refine lv_aload_n hx hb dL_right_164 rfl (lv_at hl 0 rfl) ?_
        refine lv_iload hx hb dL_right_165 (lv_at hl 7 rfl) ?_
        refine lv_iload hx hb dL_right_167 (lv_at hl 8 rfl) ?_
        have ok_37 := And.left hok
        have hok := And.right hok
        refine lx_0 (av := [.int v8_157, .int w9_157]) C hM hE hok (fun B => k_X10_told l D a x e0 B hfl σ_157 v8_157 w9_157 ok_37) cw_L_62 (okR_of hRf hRl (Nat.le_of_ble_eq_true rfl) (Nat.le_of_ble_eq_true rfl)) rfl rfl hl.1 (Nat.le_of_ble_eq_true rfl) (by omega) (by omega) dL_right_169 (fun v9_38 hok => ?_)
        refine lv_aload hx hb dL_right_172 (lv_at hl 6 rfl) ?_
        refine lv_iload hx hb dL_right_174 (lv_at hl 8 rfl) ?_
        have ok_39 := And.left hok
        have hok := And.right hok
        refine la_J C hM 3 rfl ok_39 dL_right_176 ?_
        refine W.lcmp hx hb dL_right_177 ?_
        refine lv_if_eq (tgt := 183) hx hb dL_right_178 (by decide) (fun c_40 => ?_) (fun c_40 => ?_)
        · have hok := oif_pos hok c_40
          refine lv_iinc (v := (w9_157 + 1)) (lv' := [(9, .int (w9_157 + 1)), (0, .ref x), (1, .ref q0), (2, .ref q1), (3, .ref q2), (4, .int p4), (5, .int p5), (7, .ref q4), (8, .int v8_157)]) hx hb dL_right_183 hl (k := 8) rfl rfl (by decide) rfl (fun ls hl => ?_)
          refine lv_goto (tgt := 157) hx hb dL_right_186 (by decide) ?_
          exact kc9 (w9_157 + 1) hok _ _ _ _ _ (by omega) (by omega) hM (lv_sub hl [1, 2, 3, 4, 5, 6, 7, 8, 0] rfl)
        · have hok := oif_neg hok c_40
          refine lv_iconst (v := 0) hx hb dL_right_181 (by decide) ?_
          refine W.widen (k := 41751) (n := 168354) (by omega) (by omega) ?_
          exact ret _ _ _ _ _ hM.2.2.1 dL_right_182 (by unfold zb; decide) ⟨_, _, hok, rfl, hM.2.2.2.mono (fun q h _ => h.1) (fun _ _ _ => rfl)⟩
    refine lv_iload hx hb dL_right_119 (lv_at hl 7 rfl) ?_
    refine lv_iload hx hb dL_right_121 (lv_at hl 4 rfl) ?_
    refine lv_icmp_ge (tgt := 339) hx hb dL_right_123 (by decide) (fun c_5 => ?_) (fun c_5 => ?_)
    · have hok := oif_pos hok c_5
      have hM : HL D a x e0 A [(q0, .inl (a 0, 16, .inl (μw_119.1 0))), (q1, .inl (a 0, 64, .inl (μw_119.1 1))), (q2, .inl (a 0, 64, .inl (μw_119.1 2)))] (some σw_119) s.heap H locs := hM.sub [0, 1, 2] rfl rfl
      refine W.widen (k := 41751) (n := 168354) (by omega) (by omega) ?_
      exact J_m339 μw_119 σw_119 hok _ _ ls hM (lv_sub hl [] rfl)
    · have hok := oif_neg hok c_5
      refine lv_aload_n hx hb dL_right_126 rfl (lv_at hl 1 rfl) ?_
      refine lv_aload_n hx hb dL_right_127 rfl (lv_at hl 2 rfl) ?_
      refine lv_iload hx hb dL_right_128 (lv_at hl 4 rfl) ?_
      refine lv_iload hx hb dL_right_130 (lv_at hl 7 rfl) ?_
      obtain ⟨S9_6, w9_7, g9_8⟩ := hok
      refine lc_0 (av := [.ref q0, .ref q1, .int p4, .int w8_119]) C hM hAf [0, 1] rfl rfl (fun A9 => k_L_group l D a A9 q0 q1 μw_119 p4 w8_119 S9_6 w9_7) cw_L_26 (okR_of hRf hRl (Nat.le_of_ble_eq_true rfl) (Nat.le_of_ble_eq_true rfl)) rfl rfl hl.1 (Nat.le_of_ble_eq_true rfl) (by omega) (by omega) dL_right_132 (fun H locs v9 hM hP9 => ?_)
      obtain ⟨v9_10, hS_9, rfl⟩ := hP9
      have hM : HL D a x e0 A [(q0, .inl (a 0, 16, .inl (μw_119.1 0))), (q1, .inl (a 0, 64, .inl (μw_119.1 1))), (q2, .inl (a 0, 64, .inl (μw_119.1 2))), (q4, .inl (a 1, 16, .inr (.inl (μw_119.2 4))))] (some σw_119) s.heap H locs := hM
      have hok := g9_8 v9_10 hS_9
      refine lv_iload hx hb dL_right_135 (lv_at hl 7 rfl) ?_
      refine lv_icmp_eq (tgt := 143) hx hb dL_right_137 (by decide) (fun c_11 => ?_) (fun c_11 => ?_)
      · have hok := oif_pos hok c_11
        refine lv_aload_n hx hb dL_right_143 rfl (lv_at hl 1 rfl) ?_
        refine lv_aload_n hx hb dL_right_144 rfl (lv_at hl 2 rfl) ?_
        refine lv_iload hx hb dL_right_145 (lv_at hl 4 rfl) ?_
        refine lv_iload hx hb dL_right_147 (lv_at hl 7 rfl) ?_
        refine lv_aload hx hb dL_right_149 (lv_at hl 6 rfl) ?_
        obtain ⟨S9_12, w9_13, g9_14⟩ := hok
        refine lc_1 (av := [.ref q0, .ref q1, .int p4, .int w8_119, .ref q4]) C hM hAf [0, 1, 3] rfl rfl 3 rfl hA4 (fun A9 hA9 => k_L_all l D a A9 q0 q1 q4 μw_119 p4 w8_119 S9_12 hA9 w9_13) cw_L_58 (okR_of hRf hRl (Nat.le_of_ble_eq_true rfl) (Nat.le_of_ble_eq_true rfl)) rfl rfl hl.1 (Nat.le_of_ble_eq_true rfl) (by omega) (by omega) dL_right_151 (fun H locs v9 hT9 hP9 => ?_)
        obtain ⟨gq_16, hS_15, rfl, hT8⟩ := hP9
        have hM : HL D a x e0 A [(q0, .inl (a 0, 16, .inl ((mQ μw_119 4 gq_16).1 0))), (q1, .inl (a 0, 64, .inl ((mQ μw_119 4 gq_16).1 1))), (q2, .inl (a 0, 64, .inl ((mQ μw_119 4 gq_16).1 2))), (q4, .inl (a 1, 16, .inr (.inl ((mQ μw_119 4 gq_16).2 4))))] (some σw_119) s.heap H locs := hT9 _ hT8
        have hok := g9_14 gq_16 hS_15
        refine lv_iconst (v := 0) hx hb dL_right_154 (by decide) ?_
        refine lv_istore (lv' := [(9, .int 0), (0, .ref x), (1, .ref q0), (2, .ref q1), (3, .ref q2), (4, .int p4), (5, .int p5), (7, .ref q4), (8, .int w8_119)]) hx hb dL_right_155 hl (by decide) rfl (fun ls hl => ?_)
        refine W.widen (k := (k_119 + 4682)) (n := (j_119 + 18836)) (by omega) (by omega) ?_
        exact J_l119_157 w8_119 0 (mQ μw_119 4 gq_16) σw_119 hok _ _ ls hM (lv_sub hl [1, 2, 3, 4, 5, 6, 7, 8, 0] rfl)
      · have hok := oif_neg hok c_11
        refine lv_goto (tgt := 333) hx hb dL_right_140 (by decide) ?_
        refine W.widen (k := (k_119 + 4703)) (n := (j_119 + 18962)) (by omega) (by omega) ?_
        exact J_l119_333 w8_119 μw_119 σw_119 hok _ _ ls hM (lv_sub hl [0, 1, 2, 3, 4, 5, 6, 7] rfl)
  have J_m110 : ∀  (μ_110 : MS) (σ_110 : XS), w_L_right_m110 x p4 p5 K μ_110 σ_110 → ∀ (H : Heap) (locs : List Loc) (ls : Array Slot), HL D a x e0 A [(q0, .inl (a 0, 16, .inl (μ_110.1 0))), (q1, .inl (a 0, 64, .inl (μ_110.1 1))), (q2, .inl (a 0, 64, .inl (μ_110.1 2)))] (some σ_110) s.heap H locs → lv_has ls 11 [(0, .ref x), (1, .ref q0), (2, .ref q1), (3, .ref q2), (4, .int p4), (5, .int p5)] → W p l e R s m args below meth c H locs 4126 16642 Q (F0 m 110 ls []) := by
    intro μ_110 σ_110 hok H locs ls hM hl
    refine lv_bipush (v := nI 16) hx hb dL_right_110 (by decide) ?_
    refine ln_J C hM hAf (N := 16) (by omega) (by omega) (by omega) dL_right_112 (fun q4 H locs hA4 hM => ?_)
    have hM : HL D a x e0 A [(q0, .inl (a 0, 16, .inl ((mZJ μ_110 4).1 0))), (q1, .inl (a 0, 64, .inl ((mZJ μ_110 4).1 1))), (q2, .inl (a 0, 64, .inl ((mZJ μ_110 4).1 2))), (q4, .inl (a 1, 16, .inr (.inl ((mZJ μ_110 4).2 4))))] (some σ_110) s.heap H locs := hM
    refine lv_astore (lv' := [(7, .ref q4), (0, .ref x), (1, .ref q0), (2, .ref q1), (3, .ref q2), (4, .int p4), (5, .int p5)]) hx hb dL_right_114 hl (by decide) rfl (fun ls hl => ?_)
    refine lv_iconst (v := 0) hx hb dL_right_116 (by decide) ?_
    refine lv_istore (lv' := [(8, .int 0), (7, .ref q4), (0, .ref x), (1, .ref q0), (2, .ref q1), (3, .ref q2), (4, .int p4), (5, .int p5)]) hx hb dL_right_117 hl (by decide) rfl (fun ls hl => ?_)
    refine W.widen (k := 4127) (n := 16658) (by omega) (by omega) ?_
    exact J_m119 q4 hA4 0 (mZJ μ_110 4) σ_110 hok _ _ ls hM (lv_sub hl [2, 3, 4, 5, 6, 7, 1, 0] rfl)
  have J_m82 : ∀ (q3 : Nat) (hA3 : A q3) (v7_82 : Int32) (μ_82 : MS) (σ_82 : XS), w_L_right_m82 x p4 p5 K v7_82 μ_82 σ_82 → ∀ (H : Heap) (locs : List Loc) (ls : Array Slot), HL D a x e0 A [(q0, .inl (a 0, 16, .inl (μ_82.1 0))), (q1, .inl (a 0, 64, .inl (μ_82.1 1))), (q2, .inl (a 0, 64, .inl (μ_82.1 2))), (q3, .inl (a 0, 4, .inl (μ_82.1 3)))] (some σ_82) s.heap H locs → lv_has ls 11 [(0, .ref x), (1, .ref q0), (2, .ref q1), (3, .ref q2), (4, .int p4), (5, .int p5), (6, .ref q3), (7, .int v7_82)] → W p l e R s m args below meth c H locs 4121 16612 Q (F0 m 82 ls []) := by
    intro q3 hA3 v7_82 μ_82 σ_82 hok H locs ls hM hl
    obtain ⟨I9_41, i9_42, n9_43, s9_44⟩ := hok
    refine inv_W (I := I9_41) (fun (n : Nat) (v : Int32) => ∀ (k j : Nat) (H : Heap) (locs : List Loc) (ls : Array Slot), k + bud n 1 ≤ 4126 → j + bud n 6 ≤ 16642 → HL D a x e0 A [(q0, .inl (a 0, 16, .inl (μ_82.1 0))), (q1, .inl (a 0, 64, .inl (μ_82.1 1))), (q2, .inl (a 0, 64, .inl (μ_82.1 2))), (q3, .inl (a 0, 4, .inl (μ_82.1 3)))] (some σ_82) s.heap H locs → lv_has ls 11 [(0, .ref x), (1, .ref q0), (2, .ref q1), (3, .ref q2), (4, .int p4), (5, .int p5), (6, .ref q3), (7, .int v)] → W p l e R s m args below meth c H locs k j Q (F0 m 82 ls [])) n9_43 (fun n_82 v hI9 kc9 => ?_) 5 v7_82 i9_42 _ _ _ _ ls (bud_e (t := 5) (by omega) rfl) (bud_e (t := 30) (by omega) rfl) hM (lv_sub hl [0, 1, 2, 3, 4, 5, 6, 7] rfl)
    obtain ⟨w7_82, rfl⟩ : ∃ z, z = v := ⟨_, rfl⟩
    have hok : b_L_right_82 x p4 p5 K μ_82 σ_82 w7_82 (I9_41 n_82) (fun (v : Int32) => (w_L_right_m110 x p4 p5 K μ_82 σ_82)) := s9_44 n_82 (w7_82) hI9
    intro k_82 j_82 H locs ls hk_82 hj_82 hM hl
    replace hk_82 := bud_s hk_82
    replace hj_82 := bud_s hj_82
    refine lv_iload hx hb dL_right_82 (lv_at hl 7 rfl) ?_
    refine lv_iconst (v := 4) hx hb dL_right_84 (by decide) ?_
    refine lv_icmp_ge (tgt := 110) hx hb dL_right_85 (by decide) (fun c_45 => ?_) (fun c_45 => ?_)
    · have hok := oif_pos hok c_45
      have hM : HL D a x e0 A [(q0, .inl (a 0, 16, .inl (μ_82.1 0))), (q1, .inl (a 0, 64, .inl (μ_82.1 1))), (q2, .inl (a 0, 64, .inl (μ_82.1 2)))] (some σ_82) s.heap H locs := hM.sub [0, 1, 2] rfl rfl
      refine W.widen (k := 4126) (n := 16642) (by omega) (by omega) ?_
      exact J_m110 μ_82 σ_82 hok _ _ ls hM (lv_sub hl [0, 1, 2, 3, 4, 5] rfl)
    · have hok := oif_neg hok c_45
      refine lv_aload_n hx hb dL_right_88 rfl (lv_at hl 0 rfl) ?_
      refine lv_iload hx hb dL_right_89 (lv_at hl 7 rfl) ?_
      have ok_46 := And.left hok
      have hok := And.right hok
      refine lx_0 (av := [.int w7_82]) C hM hE hok (fun B => k_X10_fireballs l D a x e0 B hfl σ_82 w7_82 ok_46) cw_L_55 (okR_of hRf hRl (Nat.le_of_ble_eq_true rfl) (Nat.le_of_ble_eq_true rfl)) rfl rfl hl.1 (Nat.le_of_ble_eq_true rfl) (by omega) (by omega) dL_right_91 (fun v9_47 hok => ?_)
      refine lv_aload hx hb dL_right_94 (lv_at hl 6 rfl) ?_
      refine lv_iload hx hb dL_right_96 (lv_at hl 7 rfl) ?_
      have ok_48 := And.left hok
      have hok := And.right hok
      refine la_I C hM 3 rfl ok_48 dL_right_98 ?_
      refine lv_icmp_eq (tgt := 104) hx hb dL_right_99 (by decide) (fun c_49 => ?_) (fun c_49 => ?_)
      · have hok := oif_pos hok c_49
        refine lv_iinc (v := (w7_82 + 1)) (lv' := [(7, .int (w7_82 + 1)), (0, .ref x), (1, .ref q0), (2, .ref q1), (3, .ref q2), (4, .int p4), (5, .int p5), (6, .ref q3)]) hx hb dL_right_104 hl (k := 7) rfl rfl (by decide) rfl (fun ls hl => ?_)
        refine lv_goto (tgt := 82) hx hb dL_right_107 (by decide) ?_
        exact kc9 (w7_82 + 1) hok _ _ _ _ _ (by omega) (by omega) hM (lv_sub hl [1, 2, 3, 4, 5, 6, 7, 0] rfl)
      · have hok := oif_neg hok c_49
        refine lv_iconst (v := 0) hx hb dL_right_102 (by decide) ?_
        refine W.widen (k := 41751) (n := 168354) (by omega) (by omega) ?_
        exact ret _ _ _ _ _ hM.2.2.1 dL_right_103 (by unfold zb; decide) ⟨_, _, hok, rfl, hM.2.2.2.mono (fun q h _ => h.1) (fun _ _ _ => rfl)⟩
  have J_m79 : ∀ (q3 : Nat) (hA3 : A q3) (μ_79 : MS) (σ_79 : XS), w_L_right_m79 x p4 p5 K μ_79 σ_79 → ∀ (H : Heap) (locs : List Loc) (ls : Array Slot), HL D a x e0 A [(q0, .inl (a 0, 16, .inl (μ_79.1 0))), (q1, .inl (a 0, 64, .inl (μ_79.1 1))), (q2, .inl (a 0, 64, .inl (μ_79.1 2))), (q3, .inl (a 0, 4, .inl (μ_79.1 3)))] (some σ_79) s.heap H locs → lv_has ls 11 [(0, .ref x), (1, .ref q0), (2, .ref q1), (3, .ref q2), (4, .int p4), (5, .int p5), (6, .ref q3)] → W p l e R s m args below meth c H locs 4121 16612 Q (F0 m 79 ls []) := by
    intro q3 hA3 μ_79 σ_79 hok H locs ls hM hl
    refine lv_iconst (v := 0) hx hb dL_right_79 (by decide) ?_
    refine lv_istore (lv' := [(7, .int 0), (0, .ref x), (1, .ref q0), (2, .ref q1), (3, .ref q2), (4, .int p4), (5, .int p5), (6, .ref q3)]) hx hb dL_right_80 hl (by decide) rfl (fun ls hl => ?_)
    refine W.widen (k := 4121) (n := 16612) (by omega) (by omega) ?_
    exact J_m82 q3 hA3 0 μ_79 σ_79 hok _ _ ls hM (lv_sub hl [1, 2, 3, 4, 5, 6, 7, 0] rfl)
  have J_m8 : ∀ (q3 : Nat) (hA3 : A q3) (v7_8 : Int32) (μ_8 : MS) (σ_8 : XS), w_L_right_m8 x p4 p5 K v7_8 μ_8 σ_8 → ∀ (H : Heap) (locs : List Loc) (ls : Array Slot), HL D a x e0 A [(q0, .inl (a 0, 16, .inl (μ_8.1 0))), (q1, .inl (a 0, 64, .inl (μ_8.1 1))), (q2, .inl (a 0, 64, .inl (μ_8.1 2))), (q3, .inl (a 0, 4, .inl (μ_8.1 3)))] (some σ_8) s.heap H locs → lv_has ls 11 [(0, .ref x), (1, .ref q0), (2, .ref q1), (3, .ref q2), (4, .int p4), (5, .int p5), (6, .ref q3), (7, .int v7_8)] → W p l e R s m args below meth c H locs 1 4 Q (F0 m 8 ls []) := by
    intro q3 hA3 v7_8 μ_8 σ_8 hok H locs ls hM hl
    obtain ⟨I9_50, i9_51, n9_52, s9_53⟩ := hok
    refine inv_W (I := I9_50) (fun (n : Nat) (v : Int32 × MS × XS) => ∀ (k j : Nat) (H : Heap) (locs : List Loc) (ls : Array Slot), k + bud n 515 ≤ 4121 → j + bud n 2076 ≤ 16612 → HL D a x e0 A [(q0, .inl (a 0, 16, .inl (v.2.1.1 0))), (q1, .inl (a 0, 64, .inl (v.2.1.1 1))), (q2, .inl (a 0, 64, .inl (v.2.1.1 2))), (q3, .inl (a 0, 4, .inl (v.2.1.1 3)))] (some v.2.2) s.heap H locs → lv_has ls 11 [(0, .ref x), (1, .ref q0), (2, .ref q1), (3, .ref q2), (4, .int p4), (5, .int p5), (6, .ref q3), (7, .int v.1)] → W p l e R s m args below meth c H locs k j Q (F0 m 8 ls [])) n9_52 (fun n_8 v hI9 kc9 => ?_) 8 (v7_8, μ_8, σ_8) i9_51 _ _ _ _ ls (bud_e (t := 4120) (by omega) rfl) (bud_e (t := 16608) (by omega) rfl) hM (lv_sub hl [0, 1, 2, 3, 4, 5, 6, 7] rfl)
    obtain ⟨w7_8, μw_8, σw_8⟩ := v
    have hok : b_L_right_8 x p4 p5 K w7_8 μw_8 σw_8 (I9_50 n_8) (fun (v : Int32 × MS × XS) => (w_L_right_m79 x p4 p5 K v.2.1 v.2.2)) := s9_53 n_8 (w7_8, μw_8, σw_8) hI9
    intro k_8 j_8 H locs ls hk_8 hj_8 hM hl
    replace hk_8 := bud_s hk_8
    replace hj_8 := bud_s hj_8
    have J_l8_73 : ∀  (v7_73 : Int32) (μ_73 : MS) (σ_73 : XS), w_L_right_l8_73 x p4 p5 K w7_8 μw_8 σw_8 (I9_50 n_8) (fun (v : Int32 × MS × XS) => (w_L_right_m79 x p4 p5 K v.2.1 v.2.2)) v7_73 μ_73 σ_73 → ∀ (H : Heap) (locs : List Loc) (ls : Array Slot), HL D a x e0 A [(q0, .inl (a 0, 16, .inl (μ_73.1 0))), (q1, .inl (a 0, 64, .inl (μ_73.1 1))), (q2, .inl (a 0, 64, .inl (μ_73.1 2))), (q3, .inl (a 0, 4, .inl (μ_73.1 3)))] (some σ_73) s.heap H locs → lv_has ls 11 [(0, .ref x), (1, .ref q0), (2, .ref q1), (3, .ref q2), (4, .int p4), (5, .int p5), (6, .ref q3), (7, .int v7_73)] → W p l e R s m args below meth c H locs (k_8 + 515) (j_8 + 2076) Q (F0 m 73 ls []) := by
      intro v7_73 μ_73 σ_73 hok H locs ls hM hl
      refine lv_iinc (v := (v7_73 + 1)) (lv' := [(7, .int (v7_73 + 1)), (0, .ref x), (1, .ref q0), (2, .ref q1), (3, .ref q2), (4, .int p4), (5, .int p5), (6, .ref q3)]) hx hb dL_right_73 hl (k := 7) rfl rfl (by decide) rfl (fun ls hl => ?_)
      refine lv_goto (tgt := 8) hx hb dL_right_76 (by decide) ?_
      exact kc9 ((v7_73 + 1), μ_73, σ_73) hok _ _ _ _ _ (by omega) (by omega) hM (lv_sub hl [1, 2, 3, 4, 5, 6, 7, 0] rfl)
    refine lv_iload hx hb dL_right_8 (lv_at hl 7 rfl) ?_
    refine lv_iload hx hb dL_right_10 (lv_at hl 4 rfl) ?_
    refine lv_icmp_ge (tgt := 79) hx hb dL_right_12 (by decide) (fun c_54 => ?_) (fun c_54 => ?_)
    · have hok := oif_pos hok c_54
      refine W.widen (k := 4121) (n := 16612) (by omega) (by omega) ?_
      exact J_m79 q3 hA3 μw_8 σw_8 hok _ _ ls hM (lv_sub hl [0, 1, 2, 3, 4, 5, 6] rfl)
    · have hok := oif_neg hok c_54
      refine lv_aload_n hx hb dL_right_15 rfl (lv_at hl 1 rfl) ?_
      refine lv_aload_n hx hb dL_right_16 rfl (lv_at hl 2 rfl) ?_
      refine lv_iload hx hb dL_right_17 (lv_at hl 4 rfl) ?_
      refine lv_iload hx hb dL_right_19 (lv_at hl 7 rfl) ?_
      obtain ⟨S9_55, w9_56, g9_57⟩ := hok
      refine lc_0 (av := [.ref q0, .ref q1, .int p4, .int w7_8]) C hM hAf [0, 1] rfl rfl (fun A9 => k_L_group l D a A9 q0 q1 μw_8 p4 w7_8 S9_55 w9_56) cw_L_26 (okR_of hRf hRl (Nat.le_of_ble_eq_true rfl) (Nat.le_of_ble_eq_true rfl)) rfl rfl hl.1 (Nat.le_of_ble_eq_true rfl) (by omega) (by omega) dL_right_21 (fun H locs v9 hM hP9 => ?_)
      obtain ⟨v9_59, hS_58, rfl⟩ := hP9
      have hM : HL D a x e0 A [(q0, .inl (a 0, 16, .inl (μw_8.1 0))), (q1, .inl (a 0, 64, .inl (μw_8.1 1))), (q2, .inl (a 0, 64, .inl (μw_8.1 2))), (q3, .inl (a 0, 4, .inl (μw_8.1 3)))] (some σw_8) s.heap H locs := hM
      have hok := g9_57 v9_59 hS_58
      refine lv_istore (lv' := [(8, .int v9_59), (0, .ref x), (1, .ref q0), (2, .ref q1), (3, .ref q2), (4, .int p4), (5, .int p5), (6, .ref q3), (7, .int w7_8)]) hx hb dL_right_24 hl (by decide) rfl (fun ls hl => ?_)
      refine lv_aload_n hx hb dL_right_26 rfl (lv_at hl 1 rfl) ?_
      refine lv_iload hx hb dL_right_27 (lv_at hl 8 rfl) ?_
      have ok_60 := And.left hok
      have hok := And.right hok
      refine lx_0 (av := [.int w7_8]) C hM hE hok (fun B => k_X10_fireball l D a x e0 B hfl σw_8 w7_8 ok_60) cw_L_46 (okR_of hRf hRl (Nat.le_of_ble_eq_true rfl) (Nat.le_of_ble_eq_true rfl)) rfl rfl hl.1 (Nat.le_of_ble_eq_true rfl) (by omega) (by omega) dL_right_29 (fun v9_61 hok => ?_)
      refine lv_iload hx hb dL_right_32 (lv_at hl 0 rfl) ?_
      refine lv_icmp_ne (tgt := 48) hx hb dL_right_34 (by decide) (fun c_62 => ?_) (fun c_62 => ?_)
      · have hok := oif_neg hok c_62
        refine lv_iconst (v := 0) hx hb dL_right_48 (by decide) ?_
        refine W.widen (k := 41751) (n := 168354) (by omega) (by omega) ?_
        exact ret _ _ _ _ _ hM.2.2.1 dL_right_49 (by unfold zb; decide) ⟨_, _, hok, rfl, hM.2.2.2.mono (fun q h _ => h.1) (fun _ _ _ => rfl)⟩
      · have hok := oif_pos hok c_62
        refine lv_aload_n hx hb dL_right_37 rfl (lv_at hl 1 rfl) ?_
        refine lv_iload hx hb dL_right_38 (lv_at hl 8 rfl) ?_
        have ok_63 := And.left hok
        have hok := And.right hok
        refine lx_m (av := [.int w7_8]) C hM hE hok (fun B => k_X10_fireballAnew l D a x e0 B hfl σw_8 w7_8 ok_63) cw_L_52 (okR_of hRf hRl (Nat.le_of_ble_eq_true rfl) (Nat.le_of_ble_eq_true rfl)) rfl rfl hl.1 (Nat.le_of_ble_eq_true rfl) (by omega) (by omega) dL_right_40 (fun v9_64 σ9_65 H locs hok hM => ?_)
        have hM : HL D a x e0 A [(q0, .inl (a 0, 16, .inl (μw_8.1 0))), (q1, .inl (a 0, 64, .inl (μw_8.1 1))), (q2, .inl (a 0, 64, .inl (μw_8.1 2))), (q3, .inl (a 0, 4, .inl (μw_8.1 3)))] (some σ9_65) s.heap H locs := hM
        refine lv_iload hx hb dL_right_43 (lv_at hl 0 rfl) ?_
        refine lv_icmp_eq (tgt := 50) hx hb dL_right_45 (by decide) (fun c_66 => ?_) (fun c_66 => ?_)
        · have hok := oif_pos hok c_66
          refine lv_iload hx hb dL_right_50 (lv_at hl 0 rfl) ?_
          refine lv_iload hx hb dL_right_52 (lv_at hl 8 rfl) ?_
          refine lv_icmp_ne (tgt := 73) hx hb dL_right_54 (by decide) (fun c_67 => ?_) (fun c_67 => ?_)
          · have hok := oif_neg hok c_67
            refine W.widen (k := (k_8 + 515)) (n := (j_8 + 2076)) (by omega) (by omega) ?_
            exact J_l8_73 w7_8 μw_8 σ9_65 hok _ _ ls hM (lv_sub hl [1, 2, 3, 4, 5, 6, 7, 8] rfl)
          · have hok := oif_pos hok c_67
            refine lv_aload hx hb dL_right_57 (lv_at hl 7 rfl) ?_
            refine lv_aload_n hx hb dL_right_59 rfl (lv_at hl 3 rfl) ?_
            refine lv_bipush (v := 9) hx hb dL_right_60 (by decide) ?_
            refine lv_iload hx hb dL_right_62 (lv_at hl 8 rfl) ?_
            refine lv_imul hx hb dL_right_64 ?_
            refine lv_iconst (v := 1) hx hb dL_right_65 (by decide) ?_
            refine lv_iadd hx hb dL_right_66 ?_
            have ok_68 := And.left hok
            have hok := And.right hok
            refine la_I C hM 1 rfl ok_68 dL_right_67 ?_
            refine lv_dup2_11 hx hb dL_right_68 rfl rfl ?_
            have ok_69 := And.left hok
            have hok := And.right hok
            refine la_I C hM 3 rfl ok_69 dL_right_69 ?_
            refine lv_iconst (v := 1) hx hb dL_right_70 (by decide) ?_
            refine lv_iadd hx hb dL_right_71 ?_
            have ok_70 := And.left hok
            have hok := And.right hok
            refine ls_I C hM 3 rfl hA3 ok_70 dL_right_72 (fun H locs hM => ?_)
            have hM : HL D a x e0 A [(q0, .inl (a 0, 16, .inl ((mI μw_8 3 (ix (mi μw_8 1 (ix ((9 * w7_8) + 1)))) ((mi μw_8 3 (ix (mi μw_8 1 (ix ((9 * w7_8) + 1))))) + 1)).1 0))), (q1, .inl (a 0, 64, .inl ((mI μw_8 3 (ix (mi μw_8 1 (ix ((9 * w7_8) + 1)))) ((mi μw_8 3 (ix (mi μw_8 1 (ix ((9 * w7_8) + 1))))) + 1)).1 1))), (q2, .inl (a 0, 64, .inl ((mI μw_8 3 (ix (mi μw_8 1 (ix ((9 * w7_8) + 1)))) ((mi μw_8 3 (ix (mi μw_8 1 (ix ((9 * w7_8) + 1))))) + 1)).1 2))), (q3, .inl (a 0, 4, .inl ((mI μw_8 3 (ix (mi μw_8 1 (ix ((9 * w7_8) + 1)))) ((mi μw_8 3 (ix (mi μw_8 1 (ix ((9 * w7_8) + 1))))) + 1)).1 3)))] (some σ9_65) s.heap H locs := hM
            refine W.widen (k := (k_8 + 515)) (n := (j_8 + 2076)) (by omega) (by omega) ?_
            exact J_l8_73 w7_8 (mI μw_8 3 (ix (mi μw_8 1 (ix ((9 * w7_8) + 1)))) ((mi μw_8 3 (ix (mi μw_8 1 (ix ((9 * w7_8) + 1))))) + 1)) σ9_65 hok _ _ ls hM (lv_sub hl [1, 2, 3, 4, 5, 6, 7, 8] rfl)
        · have hok := oif_neg hok c_66
          refine lv_iconst (v := 0) hx hb dL_right_48 (by decide) ?_
          refine W.widen (k := 41751) (n := 168354) (by omega) (by omega) ?_
          exact ret _ _ _ _ _ hM.2.2.1 dL_right_49 (by unfold zb; decide) ⟨_, _, hok, rfl, hM.2.2.2.mono (fun q h _ => h.1) (fun _ _ _ => rfl)⟩
  refine lv_iconst (v := nI 4) hx hb dL_right_0 (by decide) ?_
  refine ln_I C hM hAf (N := 4) (by omega) (by omega) (by omega) dL_right_1 (fun q3 H locs hA3 hM => ?_)
  have hM : HL D a x e0 A [(q0, .inl (a 0, 16, .inl ((mZI μ 3).1 0))), (q1, .inl (a 0, 64, .inl ((mZI μ 3).1 1))), (q2, .inl (a 0, 64, .inl ((mZI μ 3).1 2))), (q3, .inl (a 0, 4, .inl ((mZI μ 3).1 3)))] (some σ) s.heap H locs := hM
  refine lv_astore (lv' := [(6, .ref q3), (0, .ref x), (1, .ref q0), (2, .ref q1), (3, .ref q2), (4, .int p4), (5, .int p5)]) hx hb dL_right_3 hl (by decide) rfl (fun ls hl => ?_)
  refine lv_iconst (v := 0) hx hb dL_right_5 (by decide) ?_
  refine lv_istore (lv' := [(7, .int 0), (6, .ref q3), (0, .ref x), (1, .ref q0), (2, .ref q1), (3, .ref q2), (4, .int p4), (5, .int p5)]) hx hb dL_right_6 hl (by decide) rfl (fun ls hl => ?_)
  refine W.widen (k := 1) (n := 4) (by omega) (by omega) ?_
  exact J_m8 q3 hA3 0 (mZI μ 3) σ hok _ _ ls hM (lv_sub hl [2, 3, 4, 5, 6, 7, 1, 0] rfl)
