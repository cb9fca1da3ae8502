def w_L_all_m412 (p2 : Int32) (p3 : Int32) (K : (Nat → Int64) → Prop) (v10_412 : Int64) (μ_412 : MS) : Prop := (¬ ((ml μ_412 4 (ix 5)) + 1) = 0 ∧ (K ((mL μ_412 4 (ix 7) ((1000 * v10_412) / ((ml μ_412 4 (ix 5)) + 1))).2 4)))
def w_L_all_m400 (p2 : Int32) (p3 : Int32) (K : (Nat → Int64) → Prop) (v10_400 : Int64) (μ_400 : MS) : Prop := (¬ (ml μ_400 4 (ix 0)) = 0 ∧ (w_L_all_m412 p2 p3 K v10_400 (mL μ_400 4 (ix 6) ((ml μ_400 4 (ix 6)) / (ml μ_400 4 (ix 0))))))
def w_L_all_m382 (p2 : Int32) (p3 : Int32) (K : (Nat → Int64) → Prop) (v8_382 : Int64) (v10_382 : Int64) (v16_382 : Int64) (μ_382 : MS) : Prop := (¬ v8_382 = 0 ∧ (w_L_all_m400 p2 p3 K v10_382 (mL μ_382 4 (ix 5) (((10 * v16_382) * (ml μ_382 4 (ix 0))) / v8_382))))
def w_L_all_l340_371 (p2 : Int32) (p3 : Int32) (K : (Nat → Int64) → Prop) (v8_340 : Int64) (v10_340 : Int64) (v12_340 : Int64) (μ_340 : MS) (w14_340 : Int64) (w16_340 : Int64) (KC : (Int64 × Int64) → Prop) (KE : (Int64 × Int64) → Prop) (v14_371 : Int64) (v16_371 : Int64) : Prop := (KC ((v14_371 / 2), v16_371))
def b_L_all_340 (p2 : Int32) (p3 : Int32) (K : (Nat → Int64) → Prop) (v8_340 : Int64) (v10_340 : Int64) (v12_340 : Int64) (μ_340 : MS) (w14_340 : Int64) (w16_340 : Int64) (KC : (Int64 × Int64) → Prop) (KE : (Int64 × Int64) → Prop) : Prop := (oif ((lg_cmp w14_340 0) ≤ 0) (KE (w14_340, w16_340)) (oif (0 < (lg_cmp ((w16_340 + w14_340) * (w16_340 + w14_340)) v12_340)) (w_L_all_l340_371 p2 p3 K v8_340 v10_340 v12_340 μ_340 w14_340 w16_340 KC KE w14_340 w16_340) (w_L_all_l340_371 p2 p3 K v8_340 v10_340 v12_340 μ_340 w14_340 w16_340 KC KE w14_340 (w16_340 + w14_340))))
def w_L_all_m340 (p2 : Int32) (p3 : Int32) (K : (Nat → Int64) → Prop) (v8_340 : Int64) (v10_340 : Int64) (v12_340 : Int64) (v14_340 : Int64) (v16_340 : Int64) (μ_340 : MS) : Prop := (winv 32 (fun (v : Int64 × Int64) KC KE => b_L_all_340 p2 p3 K v8_340 v10_340 v12_340 μ_340 v.1 v.2 KC KE) (v14_340, v16_340) (fun (v : Int64 × Int64) => (w_L_all_m382 p2 p3 K v8_340 v10_340 v.2 μ_340)))
def w_L_all_m332 (p2 : Int32) (p3 : Int32) (K : (Nat → Int64) → Prop) (v8_332 : Int64) (v10_332 : Int64) (v12_332 : Int64) (μ_332 : MS) : Prop := (w_L_all_m340 p2 p3 K v8_332 v10_332 v12_332 1073741824 0 μ_332)
def w_L_all_m291 (p2 : Int32) (p3 : Int32) (K : (Nat → Int64) → Prop) (v8_291 : Int64) (v10_291 : Int64) (μ_291 : MS) : Prop := (w_L_all_m332 p2 p3 K v8_291 v10_291 ((((ml μ_291 4 (ix 3)) - (ml μ_291 4 (ix 1))) * ((ml μ_291 4 (ix 3)) - (ml μ_291 4 (ix 1)))) + (((ml μ_291 4 (ix 4)) - (ml μ_291 4 (ix 2))) * ((ml μ_291 4 (ix 4)) - (ml μ_291 4 (ix 2))))) μ_291)
def w_L_all_l264_285 (p2 : Int32) (p3 : Int32) (K : (Nat → Int64) → Prop) (v6_264 : Int64) (v8_264 : Int64) (v10_264 : Int64) (w12_264 : Int32) (μw_264 : MS) (KC : (Int32 × MS) → Prop) (KE : (Int32 × MS) → Prop) (v12_285 : Int32) (μ_285 : MS) : Prop := (KC ((v12_285 + 1), μ_285))
def b_L_all_264 (p2 : Int32) (p3 : Int32) (K : (Nat → Int64) → Prop) (v6_264 : Int64) (v8_264 : Int64) (v10_264 : Int64) (w12_264 : Int32) (μw_264 : MS) (KC : (Int32 × MS) → Prop) (KE : (Int32 × MS) → Prop) : Prop := (oif (5 ≤ w12_264) (KE (w12_264, μw_264)) (vp_in w12_264 16 ∧ (¬ v6_264 = 0 ∧ (vp_in w12_264 16 ∧ (w_L_all_l264_285 p2 p3 K v6_264 v8_264 v10_264 w12_264 μw_264 KC KE w12_264 (mL μw_264 4 (ix w12_264) (f_L_down (ml μw_264 4 (ix w12_264)) v6_264)))))))
def w_L_all_m264 (p2 : Int32) (p3 : Int32) (K : (Nat → Int64) → Prop) (v6_264 : Int64) (v8_264 : Int64) (v10_264 : Int64) (v12_264 : Int32) (μ_264 : MS) : Prop := (winv 5 (fun (v : Int32 × MS) KC KE => b_L_all_264 p2 p3 K v6_264 v8_264 v10_264 v.1 v.2 KC KE) (v12_264, μ_264) (fun (v : Int32 × MS) => (w_L_all_m291 p2 p3 K v8_264 v10_264 v.2)))
def w_L_all_m261 (p2 : Int32) (p3 : Int32) (K : (Nat → Int64) → Prop) (v6_261 : Int64) (v8_261 : Int64) (v10_261 : Int64) (μ_261 : MS) : Prop := (w_L_all_m264 p2 p3 K v6_261 v8_261 v10_261 1 μ_261)
def w_L_all_l39_255 (p2 : Int32) (p3 : Int32) (K : (Nat → Int64) → Prop) (w6_39 : Int64) (w8_39 : Int64) (w10_39 : Int64) (w12_39 : Int32) (μw_39 : MS) (KC : (Int64 × Int64 × Int64 × Int32 × MS) → Prop) (KE : (Int64 × Int64 × Int64 × Int32 × MS) → Prop) (v6_255 : Int64) (v8_255 : Int64) (v10_255 : Int64) (v12_255 : Int32) (μ_255 : MS) : Prop := (KC (v6_255, v8_255, v10_255, (v12_255 + 1), μ_255))
def w_L_all_l151_249 (p2 : Int32) (p3 : Int32) (K : (Nat → Int64) → Prop) (w6_39 : Int64) (w8_39 : Int64) (w10_39 : Int64) (w12_39 : Int32) (μw_39 : MS) (v8_151 : Int64) (v10_151 : Int64) (v12_151 : Int32) (w6_151 : Int64) (w13_151 : Int32) (μw_151 : MS) (KC : (Int64 × Int32 × MS) → Prop) (KE : (Int64 × Int32 × MS) → Prop) (v6_249 : Int64) (v13_249 : Int32) (μ_249 : MS) : Prop := (KC (v6_249, (v13_249 + 1), μ_249))
def w_L_all_l151_238 (p2 : Int32) (p3 : Int32) (K : (Nat → Int64) → Prop) (w6_39 : Int64) (w8_39 : Int64) (w10_39 : Int64) (w12_39 : Int32) (μw_39 : MS) (v8_151 : Int64) (v10_151 : Int64) (v12_151 : Int32) (w6_151 : Int64) (w13_151 : Int32) (μw_151 : MS) (KC : (Int64 × Int32 × MS) → Prop) (KE : (Int64 × Int32 × MS) → Prop) (v6_238 : Int64) (v13_238 : Int32) (μ_238 : MS) : Prop := (w_L_all_l151_249 p2 p3 K w6_39 w8_39 w10_39 w12_39 μw_39 v8_151 v10_151 v12_151 w6_151 w13_151 μw_151 KC KE v6_238 v13_238 (mL μ_238 4 (ix 4) ((ml μ_238 4 (ix 4)) + (ml μ_238 5 (ix 1)))))
def w_L_all_l151_213 (p2 : Int32) (p3 : Int32) (K : (Nat → Int64) → Prop) (w6_39 : Int64) (w8_39 : Int64) (w10_39 : Int64) (w12_39 : Int32) (μw_39 : MS) (v8_151 : Int64) (v10_151 : Int64) (v12_151 : Int32) (w6_151 : Int64) (w13_151 : Int32) (μw_151 : MS) (KC : (Int64 × Int32 × MS) → Prop) (KE : (Int64 × Int32 × MS) → Prop) (v6_213 : Int64) (v13_213 : Int32) (μ_213 : MS) : Prop := (wcal2 (w_L_cross μ_213 v12_151 v13_213 7) (fun v9_56 gq_55 => (w_L_all_l151_238 p2 p3 K w6_39 w8_39 w10_39 w12_39 μw_39 v8_151 v10_151 v12_151 w6_151 w13_151 μw_151 KC KE v6_213 v13_213 (mL (mQ μ_213 5 gq_55) 4 (ix 3) ((ml μ_213 4 (ix 3)) + (ml (mQ μ_213 5 gq_55) 5 (ix 0)))))))
def w_L_all_l151_202 (p2 : Int32) (p3 : Int32) (K : (Nat → Int64) → Prop) (w6_39 : Int64) (w8_39 : Int64) (w10_39 : Int64) (w12_39 : Int32) (μw_39 : MS) (v8_151 : Int64) (v10_151 : Int64) (v12_151 : Int32) (w6_151 : Int64) (w13_151 : Int32) (μw_151 : MS) (KC : (Int64 × Int32 × MS) → Prop) (KE : (Int64 × Int32 × MS) → Prop) (v6_202 : Int64) (v13_202 : Int32) (μ_202 : MS) : Prop := (w_L_all_l151_213 p2 p3 K w6_39 w8_39 w10_39 w12_39 μw_39 v8_151 v10_151 v12_151 w6_151 w13_151 μw_151 KC KE v6_202 v13_202 (mL μ_202 4 (ix 2) ((ml μ_202 4 (ix 2)) + (ml μ_202 5 (ix 1)))))
def b_L_all_151 (p2 : Int32) (p3 : Int32) (K : (Nat → Int64) → Prop) (w6_39 : Int64) (w8_39 : Int64) (w10_39 : Int64) (w12_39 : Int32) (μw_39 : MS) (v8_151 : Int64) (v10_151 : Int64) (v12_151 : Int32) (w6_151 : Int64) (w13_151 : Int32) (μw_151 : MS) (KC : (Int64 × Int32 × MS) → Prop) (KE : (Int64 × Int32 × MS) → Prop) : Prop := (oif (p2 ≤ w13_151) (KE (w6_151, w13_151, μw_151)) (wcal (w_L_joins μw_151 v12_151 w13_151) (fun v9_43 => (oif (v9_43 = 0) (w_L_all_l151_249 p2 p3 K w6_39 w8_39 w10_39 w12_39 μw_39 v8_151 v10_151 v12_151 w6_151 w13_151 μw_151 KC KE w6_151 w13_151 μw_151) (wcal2 (w_L_cross μw_151 v12_151 w13_151 5) (fun v9_50 gq_49 => (w_L_all_l151_202 p2 p3 K w6_39 w8_39 w10_39 w12_39 μw_39 v8_151 v10_151 v12_151 w6_151 w13_151 μw_151 KC KE (w6_151 + 1) w13_151 (mL (mQ μw_151 5 gq_49) 4 (ix 1) ((ml μw_151 4 (ix 1)) + (ml (mQ μw_151 5 gq_49) 5 (ix 0)))))))))))
def w_L_all_l39_151 (p2 : Int32) (p3 : Int32) (K : (Nat → Int64) → Prop) (w6_39 : Int64) (w8_39 : Int64) (w10_39 : Int64) (w12_39 : Int32) (μw_39 : MS) (KC : (Int64 × Int64 × Int64 × Int32 × MS) → Prop) (KE : (Int64 × Int64 × Int64 × Int32 × MS) → Prop) (v6_151 : Int64) (v8_151 : Int64) (v10_151 : Int64) (v12_151 : Int32) (v13_151 : Int32) (μ_151 : MS) : Prop := (winv 8 (fun (v : Int64 × Int32 × MS) KC KE => b_L_all_151 p2 p3 K w6_39 w8_39 w10_39 w12_39 μw_39 v8_151 v10_151 v12_151 v.1 v.2.1 v.2.2 KC KE) (v6_151, v13_151, μ_151) (fun (v : Int64 × Int32 × MS) => (w_L_all_l39_255 p2 p3 K w6_39 w8_39 w10_39 w12_39 μw_39 KC KE v.1 v8_151 v10_151 v12_151 v.2.2)))
def w_L_all_l39_143 (p2 : Int32) (p3 : Int32) (K : (Nat → Int64) → Prop) (w6_39 : Int64) (w8_39 : Int64) (w10_39 : Int64) (w12_39 : Int32) (μw_39 : MS) (KC : (Int64 × Int64 × Int64 × Int32 × MS) → Prop) (KE : (Int64 × Int64 × Int64 × Int32 × MS) → Prop) (v6_143 : Int64) (v8_143 : Int64) (v12_143 : Int32) (t0_143 : Int64) (μ_143 : MS) : Prop := (w_L_all_l39_151 p2 p3 K w6_39 w8_39 w10_39 w12_39 μw_39 KC KE v6_143 v8_143 t0_143 v12_143 (v12_143 + 1) μ_143)
def w_L_all_l39_112 (p2 : Int32) (p3 : Int32) (K : (Nat → Int64) → Prop) (w6_39 : Int64) (w8_39 : Int64) (w10_39 : Int64) (w12_39 : Int32) (μw_39 : MS) (KC : (Int64 × Int64 × Int64 × Int32 × MS) → Prop) (KE : (Int64 × Int64 × Int64 × Int32 × MS) → Prop) (v6_112 : Int64) (v8_112 : Int64) (v10_112 : Int64) (v12_112 : Int32) (μ_112 : MS) : Prop := (vp_in ((9 * v12_112) + 4) 64 ∧ (oif ((lg_cmp ((mi μ_112 1 (ix ((9 * v12_112) + 4))).toInt64) v10_112) ≤ 0) (w_L_all_l39_143 p2 p3 K w6_39 w8_39 w10_39 w12_39 μw_39 KC KE v6_112 v8_112 v12_112 v10_112 μ_112) (vp_in ((9 * v12_112) + 4) 64 ∧ (w_L_all_l39_143 p2 p3 K w6_39 w8_39 w10_39 w12_39 μw_39 KC KE v6_112 v8_112 v12_112 ((mi μ_112 1 (ix ((9 * v12_112) + 4))).toInt64) μ_112))))
def w_L_all_l39_68 (p2 : Int32) (p3 : Int32) (K : (Nat → Int64) → Prop) (w6_39 : Int64) (w8_39 : Int64) (w10_39 : Int64) (w12_39 : Int32) (μw_39 : MS) (KC : (Int64 × Int64 × Int64 × Int32 × MS) → Prop) (KE : (Int64 × Int64 × Int64 × Int32 × MS) → Prop) (v6_68 : Int64) (v8_68 : Int64) (v10_68 : Int64) (v12_68 : Int32) (μ_68 : MS) : Prop := (vp_in ((9 * v12_68) + 3) 64 ∧ (vp_in ((9 * v12_68) + 3) 64 ∧ (vp_in ((9 * v12_68) + 4) 64 ∧ (w_L_all_l39_112 p2 p3 K w6_39 w8_39 w10_39 w12_39 μw_39 KC KE v6_68 (v8_68 + ((mi μ_68 1 (ix ((9 * v12_68) + 3))).toInt64)) v10_68 v12_68 (mL μ_68 4 (ix 6) ((ml μ_68 4 (ix 6)) + (((mi μ_68 1 (ix ((9 * v12_68) + 3))).toInt64) * ((mi μ_68 1 (ix ((9 * v12_68) + 4))).toInt64))))))))
def b_L_all_39 (p2 : Int32) (p3 : Int32) (K : (Nat → Int64) → Prop) (w6_39 : Int64) (w8_39 : Int64) (w10_39 : Int64) (w12_39 : Int32) (μw_39 : MS) (KC : (Int64 × Int64 × Int64 × Int32 × MS) → Prop) (KE : (Int64 × Int64 × Int64 × Int32 × MS) → Prop) : Prop := (oif (p2 ≤ w12_39) (KE (w6_39, w8_39, w10_39, w12_39, μw_39)) (wcal (w_L_group μw_39 p2 w12_39) (fun v9_27 => (oif (v9_27 = p3) (w_L_all_l39_68 p2 p3 K w6_39 w8_39 w10_39 w12_39 μw_39 KC KE w6_39 w8_39 w10_39 w12_39 (mL μw_39 4 (ix 0) ((ml μw_39 4 (ix 0)) + 1))) (w_L_all_l39_255 p2 p3 K w6_39 w8_39 w10_39 w12_39 μw_39 KC KE w6_39 w8_39 w10_39 w12_39 μw_39)))))
def w_L_all_m39 (p2 : Int32) (p3 : Int32) (K : (Nat → Int64) → Prop) (v6_39 : Int64) (v8_39 : Int64) (v10_39 : Int64) (v12_39 : Int32) (μ_39 : MS) : Prop := (winv 8 (fun (v : Int64 × Int64 × Int64 × Int32 × MS) KC KE => b_L_all_39 p2 p3 K v.1 v.2.1 v.2.2.1 v.2.2.2.1 v.2.2.2.2 KC KE) (v6_39, v8_39, v10_39, v12_39, μ_39) (fun (v : Int64 × Int64 × Int64 × Int32 × MS) => (w_L_all_m261 p2 p3 K v.1 v.2.1 v.2.2.1 v.2.2.2.2)))
def w_L_all_m27 (p2 : Int32) (p3 : Int32) (K : (Nat → Int64) → Prop) (μ_27 : MS) : Prop := (w_L_all_m39 p2 p3 K 0 0 0 0 μ_27)
def w_L_all_l8_21 (p2 : Int32) (p3 : Int32) (K : (Nat → Int64) → Prop) (w6_8 : Int32) (μw_8 : MS) (KC : (Int32 × MS) → Prop) (KE : (Int32 × MS) → Prop) (v6_21 : Int32) (μ_21 : MS) : Prop := (KC ((v6_21 + 1), μ_21))
def b_L_all_8 (p2 : Int32) (p3 : Int32) (K : (Nat → Int64) → Prop) (w6_8 : Int32) (μw_8 : MS) (KC : (Int32 × MS) → Prop) (KE : (Int32 × MS) → Prop) : Prop := (oif (12 ≤ w6_8) (KE (w6_8, μw_8)) (vp_in w6_8 16 ∧ (w_L_all_l8_21 p2 p3 K w6_8 μw_8 KC KE w6_8 (mL μw_8 4 (ix w6_8) 0))))
def w_L_all_m8 (p2 : Int32) (p3 : Int32) (K : (Nat → Int64) → Prop) (v6_8 : Int32) (μ_8 : MS) : Prop := (winv 13 (fun (v : Int32 × MS) KC KE => b_L_all_8 p2 p3 K v.1 v.2 KC KE) (v6_8, μ_8) (fun (v : Int32 × MS) => (w_L_all_m27 p2 p3 K v.2)))
def w_L_all (μ : MS) (p2 : Int32) (p3 : Int32) (K : (Nat → Int64) → Prop) : Prop := (w_L_all_m8 p2 p3 K 0 (mZJ μ 5))
set_option maxHeartbeats 4000000 in
set_option maxRecDepth 100000 in
theorem k_L_all (l : Launch) (D : va_G) (a : Nat → ClassId) (A : Nat → Prop) (q0 : Nat) (q1 : Nat) (q4 : Nat) (μ : MS) (p2 : Int32) (p3 : Int32) (K : (Nat → Int64) → Prop) (hA4 : A q4) (hok : w_L_all μ p2 p3 K) : KG l yL_all cL_all 18 none 4 123 4169 16772 [.ref q0, .ref q1, .int p2, .int p3, .ref q4] A (BLa D a A [(q0, .inl (a 0, 16, .inl (μ.1 0))), (q1, .inl (a 0, 64, .inl (μ.1 1))), (q4, .inl (a 1, 16, .inr (.inl (μ.2 4))))]) (fun _ v H1 => ∃ (g9 : Nat → Int64), K g9 ∧ v = none ∧ va_at D vwCl (q4, .inl (a 1, 16, .inr (.inl g9))) H1) := by
  refine goGv (D := D) (a := a) (by decide +kernel) bla_good (Nat.le_of_ble_eq_true rfl) ?_
  intro p e s m args below meth c ls R Q hRf hRl hRc hRs C hB hl ret
  obtain ⟨-, hAf, hP, hD⟩ := hB
  have hM : HL D a 0 0 A [(q0, .inl (a 0, 16, .inl (μ.1 0))), (q1, .inl (a 0, 64, .inl (μ.1 1))), (q4, .inl (a 1, 16, .inr (.inl (μ.2 4))))] none s.heap s.heap [] := ⟨hP, hD, va_S.rf, trivial⟩
  have hl : lv_has ls 18 [(0, .ref q0), (1, .ref q1), (2, .int p2), (3, .int p3), (4, .ref q4)] := hl
  have hx := C.1.1
  have hb := C.1.2.1
  have hts := C.1.2.2.2.2
  have hown := C.1.2.2.2.1
  have J_m412 : ∀  (v10_412 : Int64) (μ_412 : MS), w_L_all_m412 p2 p3 K v10_412 μ_412 → ∀ (H : Heap) (locs : List Loc) (ls : Array Slot), HL D a 0 0 A [(q0, .inl (a 0, 16, .inl (μ_412.1 0))), (q1, .inl (a 0, 64, .inl (μ_412.1 1))), (q4, .inl (a 1, 16, .inr (.inl (μ_412.2 4))))] none s.heap H locs → lv_has ls 18 [(4, .ref q4), (10, .long v10_412)] → W p l e R s m args below meth c H locs 4169 16772 Q (F0 m 412 ls []) := by
    intro v10_412 μ_412 hok H locs ls hM hl
    refine lv_aload hx hb dL_all_412 (lv_at hl 0 rfl) ?_
    refine lv_bipush (v := 7) hx hb dL_all_414 (by decide) ?_
    refine lv_ldc2 (v := 1000) hx hb hown (hts _ q_857) dL_all_416 ?_
    refine lv_lload hx hb dL_all_419 (lv_at hl 1 rfl) ?_
    refine lv_lmul hx hb dL_all_421 ?_
    refine lv_aload hx hb dL_all_422 (lv_at hl 0 rfl) ?_
    refine lv_iconst (v := 5) hx hb dL_all_424 (by decide) ?_
    refine la_J C hM 2 rfl (lit_in (by decide) (by decide)) dL_all_425 ?_
    refine lv_lconst (v := 1) hx hb dL_all_426 (by decide) ?_
    refine lv_ladd hx hb dL_all_427 ?_
    have ok_3 := And.left hok
    have hok := And.right hok
    refine lv_ldiv hx hb dL_all_428 ok_3 ?_
    refine ls_J C hM 2 rfl hA4 (lit_in (by decide) (by decide)) dL_all_429 (fun H locs hM => ?_)
    have hM : HL D a 0 0 A [(q0, .inl (a 0, 16, .inl ((mL μ_412 4 (ix 7) ((1000 * v10_412) / ((ml μ_412 4 (ix 5)) + 1))).1 0))), (q1, .inl (a 0, 64, .inl ((mL μ_412 4 (ix 7) ((1000 * v10_412) / ((ml μ_412 4 (ix 5)) + 1))).1 1))), (q4, .inl (a 1, 16, .inr (.inl ((mL μ_412 4 (ix 7) ((1000 * v10_412) / ((ml μ_412 4 (ix 5)) + 1))).2 4))))] none s.heap H locs := hM
    refine W.widen (k := 4169) (n := 16772) (by omega) (by omega) ?_
    exact ret _ _ _ _ hM.2.2.1 dL_all_430 ⟨_, hok, rfl, hM.1 2 _ rfl⟩
  have J_m400 : ∀  (v10_400 : Int64) (μ_400 : MS), w_L_all_m400 p2 p3 K v10_400 μ_400 → ∀ (H : Heap) (locs : List Loc) (ls : Array Slot), HL D a 0 0 A [(q0, .inl (a 0, 16, .inl (μ_400.1 0))), (q1, .inl (a 0, 64, .inl (μ_400.1 1))), (q4, .inl (a 1, 16, .inr (.inl (μ_400.2 4))))] none s.heap H locs → lv_has ls 18 [(4, .ref q4), (10, .long v10_400)] → W p l e R s m args below meth c H locs 4169 16772 Q (F0 m 400 ls []) := by
    intro v10_400 μ_400 hok H locs ls hM hl
    refine lv_aload hx hb dL_all_400 (lv_at hl 0 rfl) ?_
    refine lv_bipush (v := 6) hx hb dL_all_402 (by decide) ?_
    refine lv_dup2_11 hx hb dL_all_404 rfl rfl ?_
    refine la_J C hM 2 rfl (lit_in (by decide) (by decide)) dL_all_405 ?_
    refine lv_aload hx hb dL_all_406 (lv_at hl 0 rfl) ?_
    refine lv_iconst (v := 0) hx hb dL_all_408 (by decide) ?_
    refine la_J C hM 2 rfl (lit_in (by decide) (by decide)) dL_all_409 ?_
    have ok_2 := And.left hok
    have hok := And.right hok
    refine lv_ldiv hx hb dL_all_410 ok_2 ?_
    refine ls_J C hM 2 rfl hA4 (lit_in (by decide) (by decide)) dL_all_411 (fun H locs hM => ?_)
    have hM : HL D a 0 0 A [(q0, .inl (a 0, 16, .inl ((mL μ_400 4 (ix 6) ((ml μ_400 4 (ix 6)) / (ml μ_400 4 (ix 0)))).1 0))), (q1, .inl (a 0, 64, .inl ((mL μ_400 4 (ix 6) ((ml μ_400 4 (ix 6)) / (ml μ_400 4 (ix 0)))).1 1))), (q4, .inl (a 1, 16, .inr (.inl ((mL μ_400 4 (ix 6) ((ml μ_400 4 (ix 6)) / (ml μ_400 4 (ix 0)))).2 4))))] none s.heap H locs := hM
    refine W.widen (k := 4169) (n := 16772) (by omega) (by omega) ?_
    exact J_m412 v10_400 (mL μ_400 4 (ix 6) ((ml μ_400 4 (ix 6)) / (ml μ_400 4 (ix 0)))) hok _ _ ls hM (lv_sub hl [0, 1] rfl)
  have J_m382 : ∀  (v8_382 : Int64) (v10_382 : Int64) (v16_382 : Int64) (μ_382 : MS), w_L_all_m382 p2 p3 K v8_382 v10_382 v16_382 μ_382 → ∀ (H : Heap) (locs : List Loc) (ls : Array Slot), HL D a 0 0 A [(q0, .inl (a 0, 16, .inl (μ_382.1 0))), (q1, .inl (a 0, 64, .inl (μ_382.1 1))), (q4, .inl (a 1, 16, .inr (.inl (μ_382.2 4))))] none s.heap H locs → lv_has ls 18 [(4, .ref q4), (8, .long v8_382), (10, .long v10_382), (16, .long v16_382)] → W p l e R s m args below meth c H locs 4169 16772 Q (F0 m 382 ls []) := by
    intro v8_382 v10_382 v16_382 μ_382 hok H locs ls hM hl
    refine lv_aload hx hb dL_all_382 (lv_at hl 0 rfl) ?_
    refine lv_iconst (v := 5) hx hb dL_all_384 (by decide) ?_
    refine lv_ldc2 (v := 10) hx hb hown (hts _ q_856) dL_all_385 ?_
    refine lv_lload hx hb dL_all_388 (lv_at hl 3 rfl) ?_
    refine lv_lmul hx hb dL_all_390 ?_
    refine lv_aload hx hb dL_all_391 (lv_at hl 0 rfl) ?_
    refine lv_iconst (v := 0) hx hb dL_all_393 (by decide) ?_
    refine la_J C hM 2 rfl (lit_in (by decide) (by decide)) dL_all_394 ?_
    refine lv_lmul hx hb dL_all_395 ?_
    refine lv_lload hx hb dL_all_396 (lv_at hl 1 rfl) ?_
    have ok_1 := And.left hok
    have hok := And.right hok
    refine lv_ldiv hx hb dL_all_398 ok_1 ?_
    refine ls_J C hM 2 rfl hA4 (lit_in (by decide) (by decide)) dL_all_399 (fun H locs hM => ?_)
    have hM : HL D a 0 0 A [(q0, .inl (a 0, 16, .inl ((mL μ_382 4 (ix 5) (((10 * v16_382) * (ml μ_382 4 (ix 0))) / v8_382)).1 0))), (q1, .inl (a 0, 64, .inl ((mL μ_382 4 (ix 5) (((10 * v16_382) * (ml μ_382 4 (ix 0))) / v8_382)).1 1))), (q4, .inl (a 1, 16, .inr (.inl ((mL μ_382 4 (ix 5) (((10 * v16_382) * (ml μ_382 4 (ix 0))) / v8_382)).2 4))))] none s.heap H locs := hM
    refine W.widen (k := 4169) (n := 16772) (by omega) (by omega) ?_
    exact J_m400 v10_382 (mL μ_382 4 (ix 5) (((10 * v16_382) * (ml μ_382 4 (ix 0))) / v8_382)) hok _ _ ls hM (lv_sub hl [0, 2] rfl)
  have J_m340 : ∀  (v8_340 : Int64) (v10_340 : Int64) (v12_340 : Int64) (v14_340 : Int64) (v16_340 : Int64) (μ_340 : MS), w_L_all_m340 p2 p3 K v8_340 v10_340 v12_340 v14_340 v16_340 μ_340 → ∀ (H : Heap) (locs : List Loc) (ls : Array Slot), HL D a 0 0 A [(q0, .inl (a 0, 16, .inl (μ_340.1 0))), (q1, .inl (a 0, 64, .inl (μ_340.1 1))), (q4, .inl (a 1, 16, .inr (.inl (μ_340.2 4))))] none s.heap H locs → lv_has ls 18 [(4, .ref q4), (8, .long v8_340), (10, .long v10_340), (12, .long v12_340), (14, .long v14_340), (16, .long v16_340)] → W p l e R s m args below meth c H locs 4169 16772 Q (F0 m 340 ls []) := by
    intro v8_340 v10_340 v12_340 v14_340 v16_340 μ_340 hok H locs ls hM hl
    obtain ⟨I9_4, i9_5, n9_6, s9_7⟩ := hok
    refine inv_W (I := I9_4) (fun (n : Nat) (v : Int64 × Int64) => ∀ (k j : Nat) (H : Heap) (locs : List Loc) (ls : Array Slot), k + bud n 0 ≤ 4169 → j + bud n 0 ≤ 16772 → HL D a 0 0 A [(q0, .inl (a 0, 16, .inl (μ_340.1 0))), (q1, .inl (a 0, 64, .inl (μ_340.1 1))), (q4, .inl (a 1, 16, .inr (.inl (μ_340.2 4))))] none s.heap H locs → lv_has ls 18 [(4, .ref q4), (8, .long v8_340), (10, .long v10_340), (12, .long v12_340), (14, .long v.1), (16, .long v.2)] → W p l e R s m args below meth c H locs k j Q (F0 m 340 ls [])) n9_6 (fun n_340 v hI9 kc9 => ?_) 32 (v14_340, v16_340) i9_5 _ _ _ _ ls (bud_e (t := 0) (by omega) rfl) (bud_e (t := 0) (by omega) rfl) hM (lv_sub hl [0, 1, 2, 3, 4, 5] rfl)
    obtain ⟨w14_340, w16_340⟩ := v
    have hok : b_L_all_340 p2 p3 K v8_340 v10_340 v12_340 μ_340 w14_340 w16_340 (I9_4 n_340) (fun (v : Int64 × Int64) => (w_L_all_m382 p2 p3 K v8_340 v10_340 v.2 μ_340)) := s9_7 n_340 (w14_340, w16_340) hI9
    intro k_340 j_340 H locs ls hk_340 hj_340 hM hl
    replace hk_340 := bud_s hk_340
    replace hj_340 := bud_s hj_340
    have J_l340_371 : ∀  (v14_371 : Int64) (v16_371 : Int64), w_L_all_l340_371 p2 p3 K v8_340 v10_340 v12_340 μ_340 w14_340 w16_340 (I9_4 n_340) (fun (v : Int64 × Int64) => (w_L_all_m382 p2 p3 K v8_340 v10_340 v.2 μ_340)) v14_371 v16_371 → ∀ (H : Heap) (locs : List Loc) (ls : Array Slot), HL D a 0 0 A [(q0, .inl (a 0, 16, .inl (μ_340.1 0))), (q1, .inl (a 0, 64, .inl (μ_340.1 1))), (q4, .inl (a 1, 16, .inr (.inl (μ_340.2 4))))] none s.heap H locs → lv_has ls 18 [(4, .ref q4), (8, .long v8_340), (10, .long v10_340), (12, .long v12_340), (14, .long v14_371), (16, .long v16_371)] → W p l e R s m args below meth c H locs (k_340 + 0) (j_340 + 0) Q (F0 m 371 ls []) := by
      intro v14_371 v16_371 hok H locs ls hM hl
      refine lv_lload hx hb dL_all_371 (lv_at hl 4 rfl) ?_
      refine lv_ldc2 (v := 2) hx hb hown (hts _ q_855) dL_all_373 ?_
      refine lv_ldiv hx hb dL_all_376 (by decide) ?_
      refine lv_lstore (lv' := [(14, .long (v14_371 / 2)), (4, .ref q4), (8, .long v8_340), (10, .long v10_340), (12, .long v12_340), (16, .long v16_371)]) hx hb dL_all_377 hl (by decide) rfl (fun ls hl => ?_)
      refine lv_goto (tgt := 340) hx hb dL_all_379 (by decide) ?_
      exact kc9 ((v14_371 / 2), v16_371) hok _ _ _ _ _ (by omega) (by omega) hM (lv_sub hl [1, 2, 3, 4, 0, 5] rfl)
    refine lv_lload hx hb dL_all_340 (lv_at hl 4 rfl) ?_
    refine lv_lconst (v := 0) hx hb dL_all_342 (by decide) ?_
    refine W.lcmp hx hb dL_all_343 ?_
    refine lv_if_le (tgt := 382) hx hb dL_all_344 (by decide) (fun c_8 => ?_) (fun c_8 => ?_)
    · have hok := oif_pos hok c_8
      refine W.widen (k := 4169) (n := 16772) (by omega) (by omega) ?_
      exact J_m382 v8_340 v10_340 w16_340 μ_340 hok _ _ ls hM (lv_sub hl [0, 1, 2, 5] rfl)
    · have hok := oif_neg hok c_8
      refine lv_lload hx hb dL_all_347 (lv_at hl 5 rfl) ?_
      refine lv_lload hx hb dL_all_349 (lv_at hl 4 rfl) ?_
      refine lv_ladd hx hb dL_all_351 ?_
      refine lv_lload hx hb dL_all_352 (lv_at hl 5 rfl) ?_
      refine lv_lload hx hb dL_all_354 (lv_at hl 4 rfl) ?_
      refine lv_ladd hx hb dL_all_356 ?_
      refine lv_lmul hx hb dL_all_357 ?_
      refine lv_lload hx hb dL_all_358 (lv_at hl 3 rfl) ?_
      refine W.lcmp hx hb dL_all_360 ?_
      refine lv_if_gt (tgt := 371) hx hb dL_all_361 (by decide) (fun c_9 => ?_) (fun c_9 => ?_)
      · have hok := oif_pos hok c_9
        refine W.widen (k := (k_340 + 0)) (n := (j_340 + 0)) (by omega) (by omega) ?_
        exact J_l340_371 w14_340 w16_340 hok _ _ ls hM (lv_sub hl [0, 1, 2, 3, 4, 5] rfl)
      · have hok := oif_neg hok c_9
        refine lv_lload hx hb dL_all_364 (lv_at hl 5 rfl) ?_
        refine lv_lload hx hb dL_all_366 (lv_at hl 4 rfl) ?_
        refine lv_ladd hx hb dL_all_368 ?_
        refine lv_lstore (lv' := [(16, .long (w16_340 + w14_340)), (4, .ref q4), (8, .long v8_340), (10, .long v10_340), (12, .long v12_340), (14, .long w14_340)]) hx hb dL_all_369 hl (by decide) rfl (fun ls hl => ?_)
        refine W.widen (k := (k_340 + 0)) (n := (j_340 + 0)) (by omega) (by omega) ?_
        exact J_l340_371 w14_340 (w16_340 + w14_340) hok _ _ ls hM (lv_sub hl [1, 2, 3, 4, 5, 0] rfl)
  have J_m332 : ∀  (v8_332 : Int64) (v10_332 : Int64) (v12_332 : Int64) (μ_332 : MS), w_L_all_m332 p2 p3 K v8_332 v10_332 v12_332 μ_332 → ∀ (H : Heap) (locs : List Loc) (ls : Array Slot), HL D a 0 0 A [(q0, .inl (a 0, 16, .inl (μ_332.1 0))), (q1, .inl (a 0, 64, .inl (μ_332.1 1))), (q4, .inl (a 1, 16, .inr (.inl (μ_332.2 4))))] none s.heap H locs → lv_has ls 18 [(4, .ref q4), (8, .long v8_332), (10, .long v10_332), (12, .long v12_332)] → W p l e R s m args below meth c H locs 4169 16772 Q (F0 m 332 ls []) := by
    intro v8_332 v10_332 v12_332 μ_332 hok H locs ls hM hl
    refine lv_ldc2 (v := 1073741824) hx hb hown (hts _ q_854) dL_all_332 ?_
    refine lv_lstore (lv' := [(14, .long 1073741824), (4, .ref q4), (8, .long v8_332), (10, .long v10_332), (12, .long v12_332)]) hx hb dL_all_335 hl (by decide) rfl (fun ls hl => ?_)
    refine lv_lconst (v := 0) hx hb dL_all_337 (by decide) ?_
    refine lv_lstore (lv' := [(16, .long 0), (14, .long 1073741824), (4, .ref q4), (8, .long v8_332), (10, .long v10_332), (12, .long v12_332)]) hx hb dL_all_338 hl (by decide) rfl (fun ls hl => ?_)
    refine W.widen (k := 4169) (n := 16772) (by omega) (by omega) ?_
    exact J_m340 v8_332 v10_332 v12_332 1073741824 0 μ_332 hok _ _ ls hM (lv_sub hl [2, 3, 4, 5, 1, 0] rfl)
  have J_m291 : ∀  (v8_291 : Int64) (v10_291 : Int64) (μ_291 : MS), w_L_all_m291 p2 p3 K v8_291 v10_291 μ_291 → ∀ (H : Heap) (locs : List Loc) (ls : Array Slot), HL D a 0 0 A [(q0, .inl (a 0, 16, .inl (μ_291.1 0))), (q1, .inl (a 0, 64, .inl (μ_291.1 1))), (q4, .inl (a 1, 16, .inr (.inl (μ_291.2 4))))] none s.heap H locs → lv_has ls 18 [(4, .ref q4), (8, .long v8_291), (10, .long v10_291)] → W p l e R s m args below meth c H locs 4169 16772 Q (F0 m 291 ls []) := by
    intro v8_291 v10_291 μ_291 hok H locs ls hM hl
    refine lv_aload hx hb dL_all_291 (lv_at hl 0 rfl) ?_
    refine lv_iconst (v := 3) hx hb dL_all_293 (by decide) ?_
    refine la_J C hM 2 rfl (lit_in (by decide) (by decide)) dL_all_294 ?_
    refine lv_aload hx hb dL_all_295 (lv_at hl 0 rfl) ?_
    refine lv_iconst (v := 1) hx hb dL_all_297 (by decide) ?_
    refine la_J C hM 2 rfl (lit_in (by decide) (by decide)) dL_all_298 ?_
    refine lv_lsub hx hb dL_all_299 ?_
    refine lv_aload hx hb dL_all_300 (lv_at hl 0 rfl) ?_
    refine lv_iconst (v := 3) hx hb dL_all_302 (by decide) ?_
    refine la_J C hM 2 rfl (lit_in (by decide) (by decide)) dL_all_303 ?_
    refine lv_aload hx hb dL_all_304 (lv_at hl 0 rfl) ?_
    refine lv_iconst (v := 1) hx hb dL_all_306 (by decide) ?_
    refine la_J C hM 2 rfl (lit_in (by decide) (by decide)) dL_all_307 ?_
    refine lv_lsub hx hb dL_all_308 ?_
    refine lv_lmul hx hb dL_all_309 ?_
    refine lv_aload hx hb dL_all_310 (lv_at hl 0 rfl) ?_
    refine lv_iconst (v := 4) hx hb dL_all_312 (by decide) ?_
    refine la_J C hM 2 rfl (lit_in (by decide) (by decide)) dL_all_313 ?_
    refine lv_aload hx hb dL_all_314 (lv_at hl 0 rfl) ?_
    refine lv_iconst (v := 2) hx hb dL_all_316 (by decide) ?_
    refine la_J C hM 2 rfl (lit_in (by decide) (by decide)) dL_all_317 ?_
    refine lv_lsub hx hb dL_all_318 ?_
    refine lv_aload hx hb dL_all_319 (lv_at hl 0 rfl) ?_
    refine lv_iconst (v := 4) hx hb dL_all_321 (by decide) ?_
    refine la_J C hM 2 rfl (lit_in (by decide) (by decide)) dL_all_322 ?_
    refine lv_aload hx hb dL_all_323 (lv_at hl 0 rfl) ?_
    refine lv_iconst (v := 2) hx hb dL_all_325 (by decide) ?_
    refine la_J C hM 2 rfl (lit_in (by decide) (by decide)) dL_all_326 ?_
    refine lv_lsub hx hb dL_all_327 ?_
    refine lv_lmul hx hb dL_all_328 ?_
    refine lv_ladd hx hb dL_all_329 ?_
    refine lv_lstore (lv' := [(12, .long ((((ml μ_291 4 (ix 3)) - (ml μ_291 4 (ix 1))) * ((ml μ_291 4 (ix 3)) - (ml μ_291 4 (ix 1)))) + (((ml μ_291 4 (ix 4)) - (ml μ_291 4 (ix 2))) * ((ml μ_291 4 (ix 4)) - (ml μ_291 4 (ix 2)))))), (4, .ref q4), (8, .long v8_291), (10, .long v10_291)]) hx hb dL_all_330 hl (by decide) rfl (fun ls hl => ?_)
    refine W.widen (k := 4169) (n := 16772) (by omega) (by omega) ?_
    exact J_m332 v8_291 v10_291 ((((ml μ_291 4 (ix 3)) - (ml μ_291 4 (ix 1))) * ((ml μ_291 4 (ix 3)) - (ml μ_291 4 (ix 1)))) + (((ml μ_291 4 (ix 4)) - (ml μ_291 4 (ix 2))) * ((ml μ_291 4 (ix 4)) - (ml μ_291 4 (ix 2))))) μ_291 hok _ _ ls hM (lv_sub hl [1, 2, 3, 0] rfl)
  have J_m264 : ∀  (v6_264 : Int64) (v8_264 : Int64) (v10_264 : Int64) (v12_264 : Int32) (μ_264 : MS), w_L_all_m264 p2 p3 K v6_264 v8_264 v10_264 v12_264 μ_264 → ∀ (H : Heap) (locs : List Loc) (ls : Array Slot), HL D a 0 0 A [(q0, .inl (a 0, 16, .inl (μ_264.1 0))), (q1, .inl (a 0, 64, .inl (μ_264.1 1))), (q4, .inl (a 1, 16, .inr (.inl (μ_264.2 4))))] none s.heap H locs → lv_has ls 18 [(4, .ref q4), (6, .long v6_264), (8, .long v8_264), (10, .long v10_264), (12, .int v12_264)] → W p l e R s m args below meth c H locs 4169 16772 Q (F0 m 264 ls []) := by
    intro v6_264 v8_264 v10_264 v12_264 μ_264 hok H locs ls hM hl
    obtain ⟨I9_10, i9_11, n9_12, s9_13⟩ := hok
    refine inv_W (I := I9_10) (fun (n : Nat) (v : Int32 × MS) => ∀ (k j : Nat) (H : Heap) (locs : List Loc) (ls : Array Slot), k + bud n 0 ≤ 4169 → j + bud n 0 ≤ 16772 → HL D a 0 0 A [(q0, .inl (a 0, 16, .inl (v.2.1 0))), (q1, .inl (a 0, 64, .inl (v.2.1 1))), (q4, .inl (a 1, 16, .inr (.inl (v.2.2 4))))] none s.heap H locs → lv_has ls 18 [(4, .ref q4), (6, .long v6_264), (8, .long v8_264), (10, .long v10_264), (12, .int v.1)] → W p l e R s m args below meth c H locs k j Q (F0 m 264 ls [])) n9_12 (fun n_264 v hI9 kc9 => ?_) 5 (v12_264, μ_264) i9_11 _ _ _ _ ls (bud_e (t := 0) (by omega) rfl) (bud_e (t := 0) (by omega) rfl) hM (lv_sub hl [0, 1, 2, 3, 4] rfl)
    obtain ⟨w12_264, μw_264⟩ := v
    have hok : b_L_all_264 p2 p3 K v6_264 v8_264 v10_264 w12_264 μw_264 (I9_10 n_264) (fun (v : Int32 × MS) => (w_L_all_m291 p2 p3 K v8_264 v10_264 v.2)) := s9_13 n_264 (w12_264, μw_264) hI9
    intro k_264 j_264 H locs ls hk_264 hj_264 hM hl
    replace hk_264 := bud_s hk_264
    replace hj_264 := bud_s hj_264
    have J_l264_285 : ∀  (v12_285 : Int32) (μ_285 : MS), w_L_all_l264_285 p2 p3 K v6_264 v8_264 v10_264 w12_264 μw_264 (I9_10 n_264) (fun (v : Int32 × MS) => (w_L_all_m291 p2 p3 K v8_264 v10_264 v.2)) v12_285 μ_285 → ∀ (H : Heap) (locs : List Loc) (ls : Array Slot), HL D a 0 0 A [(q0, .inl (a 0, 16, .inl (μ_285.1 0))), (q1, .inl (a 0, 64, .inl (μ_285.1 1))), (q4, .inl (a 1, 16, .inr (.inl (μ_285.2 4))))] none s.heap H locs → lv_has ls 18 [(4, .ref q4), (6, .long v6_264), (8, .long v8_264), (10, .long v10_264), (12, .int v12_285)] → W p l e R s m args below meth c H locs (k_264 + 0) (j_264 + 0) Q (F0 m 285 ls []) := by
      intro v12_285 μ_285 hok H locs ls hM hl
      refine lv_iinc (v := (v12_285 + 1)) (lv' := [(12, .int (v12_285 + 1)), (4, .ref q4), (6, .long v6_264), (8, .long v8_264), (10, .long v10_264)]) hx hb dL_all_285 hl (k := 4) rfl rfl (by decide) rfl (fun ls hl => ?_)
      refine lv_goto (tgt := 264) hx hb dL_all_288 (by decide) ?_
      exact kc9 ((v12_285 + 1), μ_285) hok _ _ _ _ _ (by omega) (by omega) hM (lv_sub hl [1, 2, 3, 4, 0] rfl)
    refine lv_iload hx hb dL_all_264 (lv_at hl 4 rfl) ?_
    refine lv_iconst (v := 5) hx hb dL_all_266 (by decide) ?_
    refine lv_icmp_ge (tgt := 291) hx hb dL_all_267 (by decide) (fun c_14 => ?_) (fun c_14 => ?_)
    · have hok := oif_pos hok c_14
      refine W.widen (k := 4169) (n := 16772) (by omega) (by omega) ?_
      exact J_m291 v8_264 v10_264 μw_264 hok _ _ ls hM (lv_sub hl [0, 2, 3] rfl)
    · have hok := oif_neg hok c_14
      refine lv_aload hx hb dL_all_270 (lv_at hl 0 rfl) ?_
      refine lv_iload hx hb dL_all_272 (lv_at hl 4 rfl) ?_
      refine lv_aload hx hb dL_all_274 (lv_at hl 0 rfl) ?_
      refine lv_iload hx hb dL_all_276 (lv_at hl 4 rfl) ?_
      have ok_15 := And.left hok
      have hok := And.right hok
      refine la_J C hM 2 rfl ok_15 dL_all_278 ?_
      refine lv_lload hx hb dL_all_279 (lv_at hl 1 rfl) ?_
      have ok_16 := And.left hok
      have hok := And.right hok
      refine lc_S (av := [.long (ml μw_264 4 (ix w12_264)), .long v6_264]) C (k_L_down l D a (ml μw_264 4 (ix w12_264)) v6_264 ok_16) cw_L_12 (okR_of hRf hRl (Nat.le_of_ble_eq_true rfl) (Nat.le_of_ble_eq_true rfl)) rfl rfl hl.1 (Nat.le_of_ble_eq_true rfl) (by omega) (by omega) dL_all_281 ?_
      have ok_17 := And.left hok
      have hok := And.right hok
      refine ls_J C hM 2 rfl hA4 ok_17 dL_all_284 (fun H locs hM => ?_)
      have hM : HL D a 0 0 A [(q0, .inl (a 0, 16, .inl ((mL μw_264 4 (ix w12_264) (f_L_down (ml μw_264 4 (ix w12_264)) v6_264)).1 0))), (q1, .inl (a 0, 64, .inl ((mL μw_264 4 (ix w12_264) (f_L_down (ml μw_264 4 (ix w12_264)) v6_264)).1 1))), (q4, .inl (a 1, 16, .inr (.inl ((mL μw_264 4 (ix w12_264) (f_L_down (ml μw_264 4 (ix w12_264)) v6_264)).2 4))))] none s.heap H locs := hM
      refine W.widen (k := (k_264 + 0)) (n := (j_264 + 0)) (by omega) (by omega) ?_
      exact J_l264_285 w12_264 (mL μw_264 4 (ix w12_264) (f_L_down (ml μw_264 4 (ix w12_264)) v6_264)) hok _ _ ls hM (lv_sub hl [0, 1, 2, 3, 4] rfl)
  have J_m261 : ∀  (v6_261 : Int64) (v8_261 : Int64) (v10_261 : Int64) (μ_261 : MS), w_L_all_m261 p2 p3 K v6_261 v8_261 v10_261 μ_261 → ∀ (H : Heap) (locs : List Loc) (ls : Array Slot), HL D a 0 0 A [(q0, .inl (a 0, 16, .inl (μ_261.1 0))), (q1, .inl (a 0, 64, .inl (μ_261.1 1))), (q4, .inl (a 1, 16, .inr (.inl (μ_261.2 4))))] none s.heap H locs → lv_has ls 18 [(4, .ref q4), (6, .long v6_261), (8, .long v8_261), (10, .long v10_261)] → W p l e R s m args below meth c H locs 4169 16772 Q (F0 m 261 ls []) := by
    intro v6_261 v8_261 v10_261 μ_261 hok H locs ls hM hl
    refine lv_iconst (v := 1) hx hb dL_all_261 (by decide) ?_
    refine lv_istore (lv' := [(12, .int 1), (4, .ref q4), (6, .long v6_261), (8, .long v8_261), (10, .long v10_261)]) hx hb dL_all_262 hl (by decide) rfl (fun ls hl => ?_)
    refine W.widen (k := 4169) (n := 16772) (by omega) (by omega) ?_
    exact J_m264 v6_261 v8_261 v10_261 1 μ_261 hok _ _ ls hM (lv_sub hl [1, 2, 3, 4, 0] rfl)
  have J_m39 : ∀ (q5 : Nat) (hA5 : A q5) (v6_39 : Int64) (v8_39 : Int64) (v10_39 : Int64) (v12_39 : Int32) (μ_39 : MS), w_L_all_m39 p2 p3 K v6_39 v8_39 v10_39 v12_39 μ_39 → ∀ (H : Heap) (locs : List Loc) (ls : Array Slot), HL D a 0 0 A [(q0, .inl (a 0, 16, .inl (μ_39.1 0))), (q1, .inl (a 0, 64, .inl (μ_39.1 1))), (q4, .inl (a 1, 16, .inr (.inl (μ_39.2 4)))), (q5, .inl (a 1, 4, .inr (.inl (μ_39.2 5))))] none s.heap H locs → lv_has ls 18 [(0, .ref q0), (1, .ref q1), (2, .int p2), (3, .int p3), (4, .ref q4), (5, .ref q5), (6, .long v6_39), (8, .long v8_39), (10, .long v10_39), (12, .int v12_39)] → W p l e R s m args below meth c H locs 1 4 Q (F0 m 39 ls []) := by
    intro q5 hA5 v6_39 v8_39 v10_39 v12_39 μ_39 hok H locs ls hM hl
    obtain ⟨I9_18, i9_19, n9_20, s9_21⟩ := hok
    refine inv_W (I := I9_18) (fun (n : Nat) (v : Int64 × Int64 × Int64 × Int32 × MS) => ∀ (k j : Nat) (H : Heap) (locs : List Loc) (ls : Array Slot), k + bud n 521 ≤ 4169 → j + bud n 2096 ≤ 16772 → HL D a 0 0 A [(q0, .inl (a 0, 16, .inl (v.2.2.2.2.1 0))), (q1, .inl (a 0, 64, .inl (v.2.2.2.2.1 1))), (q4, .inl (a 1, 16, .inr (.inl (v.2.2.2.2.2 4)))), (q5, .inl (a 1, 4, .inr (.inl (v.2.2.2.2.2 5))))] none s.heap H locs → lv_has ls 18 [(0, .ref q0), (1, .ref q1), (2, .int p2), (3, .int p3), (4, .ref q4), (5, .ref q5), (6, .long v.1), (8, .long v.2.1), (10, .long v.2.2.1), (12, .int v.2.2.2.1)] → W p l e R s m args below meth c H locs k j Q (F0 m 39 ls [])) n9_20 (fun n_39 v hI9 kc9 => ?_) 8 (v6_39, v8_39, v10_39, v12_39, μ_39) i9_19 _ _ _ _ ls (bud_e (t := 4168) (by omega) rfl) (bud_e (t := 16768) (by omega) rfl) hM (lv_sub hl [0, 1, 2, 3, 4, 5, 6, 7, 8, 9] rfl)
    obtain ⟨w6_39, w8_39, w10_39, w12_39, μw_39⟩ := v
    have hok : b_L_all_39 p2 p3 K w6_39 w8_39 w10_39 w12_39 μw_39 (I9_18 n_39) (fun (v : Int64 × Int64 × Int64 × Int32 × MS) => (w_L_all_m261 p2 p3 K v.1 v.2.1 v.2.2.1 v.2.2.2.2)) := s9_21 n_39 (w6_39, w8_39, w10_39, w12_39, μw_39) hI9
    intro k_39 j_39 H locs ls hk_39 hj_39 hM hl
    replace hk_39 := bud_s hk_39
    replace hj_39 := bud_s hj_39
    have J_l39_255 : ∀  (v6_255 : Int64) (v8_255 : Int64) (v10_255 : Int64) (v12_255 : Int32) (μ_255 : MS), w_L_all_l39_255 p2 p3 K w6_39 w8_39 w10_39 w12_39 μw_39 (I9_18 n_39) (fun (v : Int64 × Int64 × Int64 × Int32 × MS) => (w_L_all_m261 p2 p3 K v.1 v.2.1 v.2.2.1 v.2.2.2.2)) v6_255 v8_255 v10_255 v12_255 μ_255 → ∀ (H : Heap) (locs : List Loc) (ls : Array Slot), HL D a 0 0 A [(q0, .inl (a 0, 16, .inl (μ_255.1 0))), (q1, .inl (a 0, 64, .inl (μ_255.1 1))), (q4, .inl (a 1, 16, .inr (.inl (μ_255.2 4)))), (q5, .inl (a 1, 4, .inr (.inl (μ_255.2 5))))] none s.heap H locs → lv_has ls 18 [(0, .ref q0), (1, .ref q1), (2, .int p2), (3, .int p3), (4, .ref q4), (5, .ref q5), (6, .long v6_255), (8, .long v8_255), (10, .long v10_255), (12, .int v12_255)] → W p l e R s m args below meth c H locs (k_39 + 521) (j_39 + 2096) Q (F0 m 255 ls []) := by
      intro v6_255 v8_255 v10_255 v12_255 μ_255 hok H locs ls hM hl
      refine lv_iinc (v := (v12_255 + 1)) (lv' := [(12, .int (v12_255 + 1)), (0, .ref q0), (1, .ref q1), (2, .int p2), (3, .int p3), (4, .ref q4), (5, .ref q5), (6, .long v6_255), (8, .long v8_255), (10, .long v10_255)]) hx hb dL_all_255 hl (k := 9) rfl rfl (by decide) rfl (fun ls hl => ?_)
      refine lv_goto (tgt := 39) hx hb dL_all_258 (by decide) ?_
      exact kc9 (v6_255, v8_255, v10_255, (v12_255 + 1), μ_255) hok _ _ _ _ _ (by omega) (by omega) hM (lv_sub hl [1, 2, 3, 4, 5, 6, 7, 8, 9, 0] rfl)
    have J_l39_151 : ∀  (v6_151 : Int64) (v8_151 : Int64) (v10_151 : Int64) (v12_151 : Int32) (v13_151 : Int32) (μ_151 : MS), w_L_all_l39_151 p2 p3 K w6_39 w8_39 w10_39 w12_39 μw_39 (I9_18 n_39) (fun (v : Int64 × Int64 × Int64 × Int32 × MS) => (w_L_all_m261 p2 p3 K v.1 v.2.1 v.2.2.1 v.2.2.2.2)) v6_151 v8_151 v10_151 v12_151 v13_151 μ_151 → ∀ (H : Heap) (locs : List Loc) (ls : Array Slot), HL D a 0 0 A [(q0, .inl (a 0, 16, .inl (μ_151.1 0))), (q1, .inl (a 0, 64, .inl (μ_151.1 1))), (q4, .inl (a 1, 16, .inr (.inl (μ_151.2 4)))), (q5, .inl (a 1, 4, .inr (.inl (μ_151.2 5))))] none s.heap H locs → lv_has ls 18 [(0, .ref q0), (1, .ref q1), (2, .int p2), (3, .int p3), (4, .ref q4), (5, .ref q5), (6, .long v6_151), (8, .long v8_151), (10, .long v10_151), (12, .int v12_151), (13, .int v13_151)] → W p l e R s m args below meth c H locs (k_39 + 513) (j_39 + 2064) Q (F0 m 151 ls []) := by
      intro v6_151 v8_151 v10_151 v12_151 v13_151 μ_151 hok H locs ls hM hl
      obtain ⟨I9_34, i9_35, n9_36, s9_37⟩ := hok
      refine inv_W (I := I9_34) (fun (n : Nat) (v : Int64 × Int32 × MS) => ∀ (k j : Nat) (H : Heap) (locs : List Loc) (ls : Array Slot), k + bud n 1 ≤ (k_39 + 521) → j + bud n 4 ≤ (j_39 + 2096) → HL D a 0 0 A [(q0, .inl (a 0, 16, .inl (v.2.2.1 0))), (q1, .inl (a 0, 64, .inl (v.2.2.1 1))), (q4, .inl (a 1, 16, .inr (.inl (v.2.2.2 4)))), (q5, .inl (a 1, 4, .inr (.inl (v.2.2.2 5))))] none s.heap H locs → lv_has ls 18 [(0, .ref q0), (1, .ref q1), (2, .int p2), (3, .int p3), (4, .ref q4), (5, .ref q5), (6, .long v.1), (8, .long v8_151), (10, .long v10_151), (12, .int v12_151), (13, .int v.2.1)] → W p l e R s m args below meth c H locs k j Q (F0 m 151 ls [])) n9_36 (fun n_151 v hI9 kc9 => ?_) 8 (v6_151, v13_151, μ_151) i9_35 _ _ _ _ ls (bud_e (t := 8) (by omega) rfl) (bud_e (t := 32) (by omega) rfl) hM (lv_sub hl [0, 1, 2, 3, 4, 5, 6, 7, 8, 9, 10] rfl)
      obtain ⟨w6_151, w13_151, μw_151⟩ := v
      have hok : b_L_all_151 p2 p3 K w6_39 w8_39 w10_39 w12_39 μw_39 v8_151 v10_151 v12_151 w6_151 w13_151 μw_151 (I9_34 n_151) (fun (v : Int64 × Int32 × MS) => (w_L_all_l39_255 p2 p3 K w6_39 w8_39 w10_39 w12_39 μw_39 (I9_18 n_39) (fun (v : Int64 × Int64 × Int64 × Int32 × MS) => (w_L_all_m261 p2 p3 K v.1 v.2.1 v.2.2.1 v.2.2.2.2)) v.1 v8_151 v10_151 v12_151 v.2.2)) := s9_37 n_151 (w6_151, w13_151, μw_151) hI9
      intro k_151 j_151 H locs ls hk_151 hj_151 hM hl
      replace hk_151 := bud_s hk_151
      replace hj_151 := bud_s hj_151
      have J_l151_249 : ∀  (v6_249 : Int64) (v13_249 : Int32) (μ_249 : MS), w_L_all_l151_249 p2 p3 K w6_39 w8_39 w10_39 w12_39 μw_39 v8_151 v10_151 v12_151 w6_151 w13_151 μw_151 (I9_34 n_151) (fun (v : Int64 × Int32 × MS) => (w_L_all_l39_255 p2 p3 K w6_39 w8_39 w10_39 w12_39 μw_39 (I9_18 n_39) (fun (v : Int64 × Int64 × Int64 × Int32 × MS) => (w_L_all_m261 p2 p3 K v.1 v.2.1 v.2.2.1 v.2.2.2.2)) v.1 v8_151 v10_151 v12_151 v.2.2)) v6_249 v13_249 μ_249 → ∀ (H : Heap) (locs : List Loc) (ls : Array Slot), HL D a 0 0 A [(q0, .inl (a 0, 16, .inl (μ_249.1 0))), (q1, .inl (a 0, 64, .inl (μ_249.1 1))), (q4, .inl (a 1, 16, .inr (.inl (μ_249.2 4)))), (q5, .inl (a 1, 4, .inr (.inl (μ_249.2 5))))] none s.heap H locs → lv_has ls 18 [(0, .ref q0), (1, .ref q1), (2, .int p2), (3, .int p3), (4, .ref q4), (5, .ref q5), (6, .long v6_249), (8, .long v8_151), (10, .long v10_151), (12, .int v12_151), (13, .int v13_249)] → W p l e R s m args below meth c H locs (k_151 + 1) (j_151 + 4) Q (F0 m 249 ls []) := by
        intro v6_249 v13_249 μ_249 hok H locs ls hM hl
        refine lv_iinc (v := (v13_249 + 1)) (lv' := [(13, .int (v13_249 + 1)), (0, .ref q0), (1, .ref q1), (2, .int p2), (3, .int p3), (4, .ref q4), (5, .ref q5), (6, .long v6_249), (8, .long v8_151), (10, .long v10_151), (12, .int v12_151)]) hx hb dL_all_249 hl (k := 10) rfl rfl (by decide) rfl (fun ls hl => ?_)
        refine lv_goto (tgt := 151) hx hb dL_all_252 (by decide) ?_
        exact kc9 (v6_249, (v13_249 + 1), μ_249) hok _ _ _ _ _ (by omega) (by omega) hM (lv_sub hl [1, 2, 3, 4, 5, 6, 7, 8, 9, 10, 0] rfl)
      have J_l151_238 : ∀  (v6_238 : Int64) (v13_238 : Int32) (μ_238 : MS), w_L_all_l151_238 p2 p3 K w6_39 w8_39 w10_39 w12_39 μw_39 v8_151 v10_151 v12_151 w6_151 w13_151 μw_151 (I9_34 n_151) (fun (v : Int64 × Int32 × MS) => (w_L_all_l39_255 p2 p3 K w6_39 w8_39 w10_39 w12_39 μw_39 (I9_18 n_39) (fun (v : Int64 × Int64 × Int64 × Int32 × MS) => (w_L_all_m261 p2 p3 K v.1 v.2.1 v.2.2.1 v.2.2.2.2)) v.1 v8_151 v10_151 v12_151 v.2.2)) v6_238 v13_238 μ_238 → ∀ (H : Heap) (locs : List Loc) (ls : Array Slot), HL D a 0 0 A [(q0, .inl (a 0, 16, .inl (μ_238.1 0))), (q1, .inl (a 0, 64, .inl (μ_238.1 1))), (q4, .inl (a 1, 16, .inr (.inl (μ_238.2 4)))), (q5, .inl (a 1, 4, .inr (.inl (μ_238.2 5))))] none s.heap H locs → lv_has ls 18 [(0, .ref q0), (1, .ref q1), (2, .int p2), (3, .int p3), (4, .ref q4), (5, .ref q5), (6, .long v6_238), (8, .long v8_151), (10, .long v10_151), (12, .int v12_151), (13, .int v13_238)] → W p l e R s m args below meth c H locs (k_151 + 1) (j_151 + 4) Q (F0 m 238 ls []) := by
        intro v6_238 v13_238 μ_238 hok H locs ls hM hl
        refine lv_aload hx hb dL_all_238 (lv_at hl 4 rfl) ?_
        refine lv_iconst (v := 4) hx hb dL_all_240 (by decide) ?_
        refine lv_dup2_11 hx hb dL_all_241 rfl rfl ?_
        refine la_J C hM 2 rfl (lit_in (by decide) (by decide)) dL_all_242 ?_
        refine lv_aload hx hb dL_all_243 (lv_at hl 5 rfl) ?_
        refine lv_iconst (v := 1) hx hb dL_all_245 (by decide) ?_
        refine la_J C hM 3 rfl (lit_in (by decide) (by decide)) dL_all_246 ?_
        refine lv_ladd hx hb dL_all_247 ?_
        refine ls_J C hM 2 rfl hA4 (lit_in (by decide) (by decide)) dL_all_248 (fun H locs hM => ?_)
        have hM : HL D a 0 0 A [(q0, .inl (a 0, 16, .inl ((mL μ_238 4 (ix 4) ((ml μ_238 4 (ix 4)) + (ml μ_238 5 (ix 1)))).1 0))), (q1, .inl (a 0, 64, .inl ((mL μ_238 4 (ix 4) ((ml μ_238 4 (ix 4)) + (ml μ_238 5 (ix 1)))).1 1))), (q4, .inl (a 1, 16, .inr (.inl ((mL μ_238 4 (ix 4) ((ml μ_238 4 (ix 4)) + (ml μ_238 5 (ix 1)))).2 4)))), (q5, .inl (a 1, 4, .inr (.inl ((mL μ_238 4 (ix 4) ((ml μ_238 4 (ix 4)) + (ml μ_238 5 (ix 1)))).2 5))))] none s.heap H locs := hM
        refine W.widen (k := (k_151 + 1)) (n := (j_151 + 4)) (by omega) (by omega) ?_
        exact J_l151_249 v6_238 v13_238 (mL μ_238 4 (ix 4) ((ml μ_238 4 (ix 4)) + (ml μ_238 5 (ix 1)))) hok _ _ ls hM (lv_sub hl [0, 1, 2, 3, 4, 5, 6, 7, 8, 9, 10] rfl)
      have J_l151_213 : ∀  (v6_213 : Int64) (v13_213 : Int32) (μ_213 : MS), w_L_all_l151_213 p2 p3 K w6_39 w8_39 w10_39 w12_39 μw_39 v8_151 v10_151 v12_151 w6_151 w13_151 μw_151 (I9_34 n_151) (fun (v : Int64 × Int32 × MS) => (w_L_all_l39_255 p2 p3 K w6_39 w8_39 w10_39 w12_39 μw_39 (I9_18 n_39) (fun (v : Int64 × Int64 × Int64 × Int32 × MS) => (w_L_all_m261 p2 p3 K v.1 v.2.1 v.2.2.1 v.2.2.2.2)) v.1 v8_151 v10_151 v12_151 v.2.2)) v6_213 v13_213 μ_213 → ∀ (H : Heap) (locs : List Loc) (ls : Array Slot), HL D a 0 0 A [(q0, .inl (a 0, 16, .inl (μ_213.1 0))), (q1, .inl (a 0, 64, .inl (μ_213.1 1))), (q4, .inl (a 1, 16, .inr (.inl (μ_213.2 4)))), (q5, .inl (a 1, 4, .inr (.inl (μ_213.2 5))))] none s.heap H locs → lv_has ls 18 [(0, .ref q0), (1, .ref q1), (2, .int p2), (3, .int p3), (4, .ref q4), (5, .ref q5), (6, .long v6_213), (8, .long v8_151), (10, .long v10_151), (12, .int v12_151), (13, .int v13_213)] → W p l e R s m args below meth c H locs (k_151 + 1) (j_151 + 4) Q (F0 m 213 ls []) := by
        intro v6_213 v13_213 μ_213 hok H locs ls hM hl
        refine lv_aload_n hx hb dL_all_213 rfl (lv_at hl 0 rfl) ?_
        refine lv_aload_n hx hb dL_all_214 rfl (lv_at hl 1 rfl) ?_
        refine lv_iload hx hb dL_all_215 (lv_at hl 9 rfl) ?_
        refine lv_iload hx hb dL_all_217 (lv_at hl 10 rfl) ?_
        refine lv_bipush (v := 7) hx hb dL_all_219 (by decide) ?_
        refine lv_aload hx hb dL_all_221 (lv_at hl 5 rfl) ?_
        obtain ⟨S9_51, w9_52, g9_53⟩ := hok
        refine lc_1 (av := [.ref q0, .ref q1, .int v12_151, .int v13_213, .int 7, .ref q5]) C hM hAf [0, 1, 3] rfl rfl 3 rfl hA5 (fun A9 hA9 => k_L_cross l D a A9 q0 q1 q5 μ_213 v12_151 v13_213 7 S9_51 hA9 w9_52) cw_L_18 (okR_of hRf hRl (Nat.le_of_ble_eq_true rfl) (Nat.le_of_ble_eq_true rfl)) rfl rfl hl.1 (Nat.le_of_ble_eq_true rfl) (by omega) (by omega) dL_all_223 (fun H locs v9 hT9 hP9 => ?_)
        obtain ⟨v9_56, gq_55, hS_54, rfl, hT8⟩ := hP9
        have hM : HL D a 0 0 A [(q0, .inl (a 0, 16, .inl ((mQ μ_213 5 gq_55).1 0))), (q1, .inl (a 0, 64, .inl ((mQ μ_213 5 gq_55).1 1))), (q4, .inl (a 1, 16, .inr (.inl ((mQ μ_213 5 gq_55).2 4)))), (q5, .inl (a 1, 4, .inr (.inl ((mQ μ_213 5 gq_55).2 5))))] none s.heap H locs := hT9 _ hT8
        have hok := g9_53 v9_56 gq_55 hS_54
        refine lv_pop hx hb dL_all_226 rfl ?_
        refine lv_aload hx hb dL_all_227 (lv_at hl 4 rfl) ?_
        refine lv_iconst (v := 3) hx hb dL_all_229 (by decide) ?_
        refine lv_dup2_11 hx hb dL_all_230 rfl rfl ?_
        refine la_J C hM 2 rfl (lit_in (by decide) (by decide)) dL_all_231 ?_
        refine lv_aload hx hb dL_all_232 (lv_at hl 5 rfl) ?_
        refine lv_iconst (v := 0) hx hb dL_all_234 (by decide) ?_
        refine la_J C hM 3 rfl (lit_in (by decide) (by decide)) dL_all_235 ?_
        refine lv_ladd hx hb dL_all_236 ?_
        refine ls_J C hM 2 rfl hA4 (lit_in (by decide) (by decide)) dL_all_237 (fun H locs hM => ?_)
        have hM : HL D a 0 0 A [(q0, .inl (a 0, 16, .inl ((mL (mQ μ_213 5 gq_55) 4 (ix 3) ((ml μ_213 4 (ix 3)) + (ml (mQ μ_213 5 gq_55) 5 (ix 0)))).1 0))), (q1, .inl (a 0, 64, .inl ((mL (mQ μ_213 5 gq_55) 4 (ix 3) ((ml μ_213 4 (ix 3)) + (ml (mQ μ_213 5 gq_55) 5 (ix 0)))).1 1))), (q4, .inl (a 1, 16, .inr (.inl ((mL (mQ μ_213 5 gq_55) 4 (ix 3) ((ml μ_213 4 (ix 3)) + (ml (mQ μ_213 5 gq_55) 5 (ix 0)))).2 4)))), (q5, .inl (a 1, 4, .inr (.inl ((mL (mQ μ_213 5 gq_55) 4 (ix 3) ((ml μ_213 4 (ix 3)) + (ml (mQ μ_213 5 gq_55) 5 (ix 0)))).2 5))))] none s.heap H locs := hM
        refine W.widen (k := (k_151 + 1)) (n := (j_151 + 4)) (by omega) (by omega) ?_
        exact J_l151_238 v6_213 v13_213 (mL (mQ μ_213 5 gq_55) 4 (ix 3) ((ml μ_213 4 (ix 3)) + (ml (mQ μ_213 5 gq_55) 5 (ix 0)))) hok _ _ ls hM (lv_sub hl [0, 1, 2, 3, 4, 5, 6, 7, 8, 9, 10] rfl)
      have J_l151_202 : ∀  (v6_202 : Int64) (v13_202 : Int32) (μ_202 : MS), w_L_all_l151_202 p2 p3 K w6_39 w8_39 w10_39 w12_39 μw_39 v8_151 v10_151 v12_151 w6_151 w13_151 μw_151 (I9_34 n_151) (fun (v : Int64 × Int32 × MS) => (w_L_all_l39_255 p2 p3 K w6_39 w8_39 w10_39 w12_39 μw_39 (I9_18 n_39) (fun (v : Int64 × Int64 × Int64 × Int32 × MS) => (w_L_all_m261 p2 p3 K v.1 v.2.1 v.2.2.1 v.2.2.2.2)) v.1 v8_151 v10_151 v12_151 v.2.2)) v6_202 v13_202 μ_202 → ∀ (H : Heap) (locs : List Loc) (ls : Array Slot), HL D a 0 0 A [(q0, .inl (a 0, 16, .inl (μ_202.1 0))), (q1, .inl (a 0, 64, .inl (μ_202.1 1))), (q4, .inl (a 1, 16, .inr (.inl (μ_202.2 4)))), (q5, .inl (a 1, 4, .inr (.inl (μ_202.2 5))))] none s.heap H locs → lv_has ls 18 [(0, .ref q0), (1, .ref q1), (2, .int p2), (3, .int p3), (4, .ref q4), (5, .ref q5), (6, .long v6_202), (8, .long v8_151), (10, .long v10_151), (12, .int v12_151), (13, .int v13_202)] → W p l e R s m args below meth c H locs (k_151 + 1) (j_151 + 4) Q (F0 m 202 ls []) := by
        intro v6_202 v13_202 μ_202 hok H locs ls hM hl
        refine lv_aload hx hb dL_all_202 (lv_at hl 4 rfl) ?_
        refine lv_iconst (v := 2) hx hb dL_all_204 (by decide) ?_
        refine lv_dup2_11 hx hb dL_all_205 rfl rfl ?_
        refine la_J C hM 2 rfl (lit_in (by decide) (by decide)) dL_all_206 ?_
        refine lv_aload hx hb dL_all_207 (lv_at hl 5 rfl) ?_
        refine lv_iconst (v := 1) hx hb dL_all_209 (by decide) ?_
        refine la_J C hM 3 rfl (lit_in (by decide) (by decide)) dL_all_210 ?_
        refine lv_ladd hx hb dL_all_211 ?_
        refine ls_J C hM 2 rfl hA4 (lit_in (by decide) (by decide)) dL_all_212 (fun H locs hM => ?_)
        have hM : HL D a 0 0 A [(q0, .inl (a 0, 16, .inl ((mL μ_202 4 (ix 2) ((ml μ_202 4 (ix 2)) + (ml μ_202 5 (ix 1)))).1 0))), (q1, .inl (a 0, 64, .inl ((mL μ_202 4 (ix 2) ((ml μ_202 4 (ix 2)) + (ml μ_202 5 (ix 1)))).1 1))), (q4, .inl (a 1, 16, .inr (.inl ((mL μ_202 4 (ix 2) ((ml μ_202 4 (ix 2)) + (ml μ_202 5 (ix 1)))).2 4)))), (q5, .inl (a 1, 4, .inr (.inl ((mL μ_202 4 (ix 2) ((ml μ_202 4 (ix 2)) + (ml μ_202 5 (ix 1)))).2 5))))] none s.heap H locs := hM
        refine W.widen (k := (k_151 + 1)) (n := (j_151 + 4)) (by omega) (by omega) ?_
        exact J_l151_213 v6_202 v13_202 (mL μ_202 4 (ix 2) ((ml μ_202 4 (ix 2)) + (ml μ_202 5 (ix 1)))) hok _ _ ls hM (lv_sub hl [0, 1, 2, 3, 4, 5, 6, 7, 8, 9, 10] rfl)
      refine lv_iload hx hb dL_all_151 (lv_at hl 10 rfl) ?_
      refine lv_iload_n hx hb dL_all_153 rfl (lv_at hl 2 rfl) ?_
      refine lv_icmp_ge (tgt := 255) hx hb dL_all_154 (by decide) (fun c_38 => ?_) (fun c_38 => ?_)
      · have hok := oif_pos hok c_38
        refine W.widen (k := (k_39 + 521)) (n := (j_39 + 2096)) (by omega) (by omega) ?_
        exact J_l39_255 w6_151 v8_151 v10_151 v12_151 μw_151 hok _ _ ls hM (lv_sub hl [0, 1, 2, 3, 4, 5, 6, 7, 8, 9] rfl)
      · have hok := oif_neg hok c_38
        refine lv_aload_n hx hb dL_all_157 rfl (lv_at hl 0 rfl) ?_
        refine lv_aload_n hx hb dL_all_158 rfl (lv_at hl 1 rfl) ?_
        refine lv_iload hx hb dL_all_159 (lv_at hl 9 rfl) ?_
        refine lv_iload hx hb dL_all_161 (lv_at hl 10 rfl) ?_
        obtain ⟨S9_39, w9_40, g9_41⟩ := hok
        refine lc_0 (av := [.ref q0, .ref q1, .int v12_151, .int w13_151]) C hM hAf [0, 1] rfl rfl (fun A9 => k_L_joins l D a A9 q0 q1 μw_151 v12_151 w13_151 S9_39 w9_40) cw_L_22 (okR_of hRf hRl (Nat.le_of_ble_eq_true rfl) (Nat.le_of_ble_eq_true rfl)) rfl rfl hl.1 (Nat.le_of_ble_eq_true rfl) (by omega) (by omega) dL_all_163 (fun H locs v9 hM hP9 => ?_)
        obtain ⟨v9_43, hS_42, rfl⟩ := hP9
        have hM : HL D a 0 0 A [(q0, .inl (a 0, 16, .inl (μw_151.1 0))), (q1, .inl (a 0, 64, .inl (μw_151.1 1))), (q4, .inl (a 1, 16, .inr (.inl (μw_151.2 4)))), (q5, .inl (a 1, 4, .inr (.inl (μw_151.2 5))))] none s.heap H locs := hM
        have hok := g9_41 v9_43 hS_42
        refine lv_if_ne (tgt := 172) hx hb dL_all_166 (by decide) (fun c_44 => ?_) (fun c_44 => ?_)
        · have hok := oif_neg hok c_44
          refine lv_lload hx hb dL_all_172 (lv_at hl 6 rfl) ?_
          refine lv_lconst (v := 1) hx hb dL_all_174 (by decide) ?_
          refine lv_ladd hx hb dL_all_175 ?_
          refine lv_lstore (lv' := [(6, .long (w6_151 + 1)), (0, .ref q0), (1, .ref q1), (2, .int p2), (3, .int p3), (4, .ref q4), (5, .ref q5), (8, .long v8_151), (10, .long v10_151), (12, .int v12_151), (13, .int w13_151)]) hx hb dL_all_176 hl (by decide) rfl (fun ls hl => ?_)
          refine lv_aload_n hx hb dL_all_178 rfl (lv_at hl 1 rfl) ?_
          refine lv_aload_n hx hb dL_all_179 rfl (lv_at hl 2 rfl) ?_
          refine lv_iload hx hb dL_all_180 (lv_at hl 9 rfl) ?_
          refine lv_iload hx hb dL_all_182 (lv_at hl 10 rfl) ?_
          refine lv_iconst (v := 5) hx hb dL_all_184 (by decide) ?_
          refine lv_aload hx hb dL_all_185 (lv_at hl 6 rfl) ?_
          obtain ⟨S9_45, w9_46, g9_47⟩ := hok
          refine lc_1 (av := [.ref q0, .ref q1, .int v12_151, .int w13_151, .int 5, .ref q5]) C hM hAf [0, 1, 3] rfl rfl 3 rfl hA5 (fun A9 hA9 => k_L_cross l D a A9 q0 q1 q5 μw_151 v12_151 w13_151 5 S9_45 hA9 w9_46) cw_L_18 (okR_of hRf hRl (Nat.le_of_ble_eq_true rfl) (Nat.le_of_ble_eq_true rfl)) rfl rfl hl.1 (Nat.le_of_ble_eq_true rfl) (by omega) (by omega) dL_all_187 (fun H locs v9 hT9 hP9 => ?_)
          obtain ⟨v9_50, gq_49, hS_48, rfl, hT8⟩ := hP9
          have hM : HL D a 0 0 A [(q0, .inl (a 0, 16, .inl ((mQ μw_151 5 gq_49).1 0))), (q1, .inl (a 0, 64, .inl ((mQ μw_151 5 gq_49).1 1))), (q4, .inl (a 1, 16, .inr (.inl ((mQ μw_151 5 gq_49).2 4)))), (q5, .inl (a 1, 4, .inr (.inl ((mQ μw_151 5 gq_49).2 5))))] none s.heap H locs := hT9 _ hT8
          have hok := g9_47 v9_50 gq_49 hS_48
          refine lv_pop hx hb dL_all_190 rfl ?_
          refine lv_aload hx hb dL_all_191 (lv_at hl 5 rfl) ?_
          refine lv_iconst (v := 1) hx hb dL_all_193 (by decide) ?_
          refine lv_dup2_11 hx hb dL_all_194 rfl rfl ?_
          refine la_J C hM 2 rfl (lit_in (by decide) (by decide)) dL_all_195 ?_
          refine lv_aload hx hb dL_all_196 (lv_at hl 6 rfl) ?_
          refine lv_iconst (v := 0) hx hb dL_all_198 (by decide) ?_
          refine la_J C hM 3 rfl (lit_in (by decide) (by decide)) dL_all_199 ?_
          refine lv_ladd hx hb dL_all_200 ?_
          refine ls_J C hM 2 rfl hA4 (lit_in (by decide) (by decide)) dL_all_201 (fun H locs hM => ?_)
          have hM : HL D a 0 0 A [(q0, .inl (a 0, 16, .inl ((mL (mQ μw_151 5 gq_49) 4 (ix 1) ((ml μw_151 4 (ix 1)) + (ml (mQ μw_151 5 gq_49) 5 (ix 0)))).1 0))), (q1, .inl (a 0, 64, .inl ((mL (mQ μw_151 5 gq_49) 4 (ix 1) ((ml μw_151 4 (ix 1)) + (ml (mQ μw_151 5 gq_49) 5 (ix 0)))).1 1))), (q4, .inl (a 1, 16, .inr (.inl ((mL (mQ μw_151 5 gq_49) 4 (ix 1) ((ml μw_151 4 (ix 1)) + (ml (mQ μw_151 5 gq_49) 5 (ix 0)))).2 4)))), (q5, .inl (a 1, 4, .inr (.inl ((mL (mQ μw_151 5 gq_49) 4 (ix 1) ((ml μw_151 4 (ix 1)) + (ml (mQ μw_151 5 gq_49) 5 (ix 0)))).2 5))))] none s.heap H locs := hM
          refine W.widen (k := (k_151 + 1)) (n := (j_151 + 4)) (by omega) (by omega) ?_
          exact J_l151_202 (w6_151 + 1) w13_151 (mL (mQ μw_151 5 gq_49) 4 (ix 1) ((ml μw_151 4 (ix 1)) + (ml (mQ μw_151 5 gq_49) 5 (ix 0)))) hok _ _ ls hM (lv_sub hl [1, 2, 3, 4, 5, 6, 0, 7, 8, 9, 10] rfl)
        · have hok := oif_pos hok c_44
          refine lv_goto (tgt := 249) hx hb dL_all_169 (by decide) ?_
          refine W.widen (k := (k_151 + 1)) (n := (j_151 + 4)) (by omega) (by omega) ?_
          exact J_l151_249 w6_151 w13_151 μw_151 hok _ _ ls hM (lv_sub hl [0, 1, 2, 3, 4, 5, 6, 7, 8, 9, 10] rfl)
    have J_l39_143 : ∀  (v6_143 : Int64) (v8_143 : Int64) (v12_143 : Int32) (t0_143 : Int64) (μ_143 : MS), w_L_all_l39_143 p2 p3 K w6_39 w8_39 w10_39 w12_39 μw_39 (I9_18 n_39) (fun (v : Int64 × Int64 × Int64 × Int32 × MS) => (w_L_all_m261 p2 p3 K v.1 v.2.1 v.2.2.1 v.2.2.2.2)) v6_143 v8_143 v12_143 t0_143 μ_143 → ∀ (H : Heap) (locs : List Loc) (ls : Array Slot), HL D a 0 0 A [(q0, .inl (a 0, 16, .inl (μ_143.1 0))), (q1, .inl (a 0, 64, .inl (μ_143.1 1))), (q4, .inl (a 1, 16, .inr (.inl (μ_143.2 4)))), (q5, .inl (a 1, 4, .inr (.inl (μ_143.2 5))))] none s.heap H locs → lv_has ls 18 [(0, .ref q0), (1, .ref q1), (2, .int p2), (3, .int p3), (4, .ref q4), (5, .ref q5), (6, .long v6_143), (8, .long v8_143), (12, .int v12_143)] → W p l e R s m args below meth c H locs (k_39 + 513) (j_39 + 2064) Q (F0 m 143 ls [.long t0_143]) := by
      intro v6_143 v8_143 v12_143 t0_143 μ_143 hok H locs ls hM hl
      refine lv_lstore (lv' := [(10, .long t0_143), (0, .ref q0), (1, .ref q1), (2, .int p2), (3, .int p3), (4, .ref q4), (5, .ref q5), (6, .long v6_143), (8, .long v8_143), (12, .int v12_143)]) hx hb dL_all_143 hl (by decide) rfl (fun ls hl => ?_)
      refine lv_iload hx hb dL_all_145 (lv_at hl 9 rfl) ?_
      refine lv_iconst (v := 1) hx hb dL_all_147 (by decide) ?_
      refine lv_iadd hx hb dL_all_148 ?_
      refine lv_istore (lv' := [(13, .int (v12_143 + 1)), (10, .long t0_143), (0, .ref q0), (1, .ref q1), (2, .int p2), (3, .int p3), (4, .ref q4), (5, .ref q5), (6, .long v6_143), (8, .long v8_143), (12, .int v12_143)]) hx hb dL_all_149 hl (by decide) rfl (fun ls hl => ?_)
      refine W.widen (k := (k_39 + 513)) (n := (j_39 + 2064)) (by omega) (by omega) ?_
      exact J_l39_151 v6_143 v8_143 t0_143 v12_143 (v12_143 + 1) μ_143 hok _ _ ls hM (lv_sub hl [2, 3, 4, 5, 6, 7, 8, 9, 1, 10, 0] rfl)
    have J_l39_112 : ∀  (v6_112 : Int64) (v8_112 : Int64) (v10_112 : Int64) (v12_112 : Int32) (μ_112 : MS), w_L_all_l39_112 p2 p3 K w6_39 w8_39 w10_39 w12_39 μw_39 (I9_18 n_39) (fun (v : Int64 × Int64 × Int64 × Int32 × MS) => (w_L_all_m261 p2 p3 K v.1 v.2.1 v.2.2.1 v.2.2.2.2)) v6_112 v8_112 v10_112 v12_112 μ_112 → ∀ (H : Heap) (locs : List Loc) (ls : Array Slot), HL D a 0 0 A [(q0, .inl (a 0, 16, .inl (μ_112.1 0))), (q1, .inl (a 0, 64, .inl (μ_112.1 1))), (q4, .inl (a 1, 16, .inr (.inl (μ_112.2 4)))), (q5, .inl (a 1, 4, .inr (.inl (μ_112.2 5))))] none s.heap H locs → lv_has ls 18 [(0, .ref q0), (1, .ref q1), (2, .int p2), (3, .int p3), (4, .ref q4), (5, .ref q5), (6, .long v6_112), (8, .long v8_112), (10, .long v10_112), (12, .int v12_112)] → W p l e R s m args below meth c H locs (k_39 + 513) (j_39 + 2064) Q (F0 m 112 ls []) := by
      intro v6_112 v8_112 v10_112 v12_112 μ_112 hok H locs ls hM hl
      refine lv_aload_n hx hb dL_all_112 rfl (lv_at hl 1 rfl) ?_
      refine lv_bipush (v := 9) hx hb dL_all_113 (by decide) ?_
      refine lv_iload hx hb dL_all_115 (lv_at hl 9 rfl) ?_
      refine lv_imul hx hb dL_all_117 ?_
      refine lv_iconst (v := 4) hx hb dL_all_118 (by decide) ?_
      refine lv_iadd hx hb dL_all_119 ?_
      have ok_32 := And.left hok
      have hok := And.right hok
      refine la_I C hM 1 rfl ok_32 dL_all_120 ?_
      refine lv_i2l (v := ((mi μ_112 1 (ix ((9 * v12_112) + 4))).toInt64)) hx hb dL_all_121 rfl ?_
      refine lv_lload hx hb dL_all_122 (lv_at hl 8 rfl) ?_
      refine W.lcmp hx hb dL_all_124 ?_
      refine lv_if_le (tgt := 141) hx hb dL_all_125 (by decide) (fun c_33 => ?_) (fun c_33 => ?_)
      · have hok := oif_pos hok c_33
        refine lv_lload hx hb dL_all_141 (lv_at hl 8 rfl) ?_
        refine W.widen (k := (k_39 + 513)) (n := (j_39 + 2064)) (by omega) (by omega) ?_
        exact J_l39_143 v6_112 v8_112 v12_112 v10_112 μ_112 hok _ _ ls hM (lv_sub hl [0, 1, 2, 3, 4, 5, 6, 7, 9] rfl)
      · have hok := oif_neg hok c_33
        refine lv_aload_n hx hb dL_all_128 rfl (lv_at hl 1 rfl) ?_
        refine lv_bipush (v := 9) hx hb dL_all_129 (by decide) ?_
        refine lv_iload hx hb dL_all_131 (lv_at hl 9 rfl) ?_
        refine lv_imul hx hb dL_all_133 ?_
        refine lv_iconst (v := 4) hx hb dL_all_134 (by decide) ?_
        refine lv_iadd hx hb dL_all_135 ?_
        have ok_57 := And.left hok
        have hok := And.right hok
        refine la_I C hM 1 rfl ok_57 dL_all_136 ?_
        refine lv_i2l (v := ((mi μ_112 1 (ix ((9 * v12_112) + 4))).toInt64)) hx hb dL_all_137 rfl ?_
        refine lv_goto (tgt := 143) hx hb dL_all_138 (by decide) ?_
        refine W.widen (k := (k_39 + 513)) (n := (j_39 + 2064)) (by omega) (by omega) ?_
        exact J_l39_143 v6_112 v8_112 v12_112 ((mi μ_112 1 (ix ((9 * v12_112) + 4))).toInt64) μ_112 hok _ _ ls hM (lv_sub hl [0, 1, 2, 3, 4, 5, 6, 7, 9] rfl)
    have J_l39_68 : ∀  (v6_68 : Int64) (v8_68 : Int64) (v10_68 : Int64) (v12_68 : Int32) (μ_68 : MS), w_L_all_l39_68 p2 p3 K w6_39 w8_39 w10_39 w12_39 μw_39 (I9_18 n_39) (fun (v : Int64 × Int64 × Int64 × Int32 × MS) => (w_L_all_m261 p2 p3 K v.1 v.2.1 v.2.2.1 v.2.2.2.2)) v6_68 v8_68 v10_68 v12_68 μ_68 → ∀ (H : Heap) (locs : List Loc) (ls : Array Slot), HL D a 0 0 A [(q0, .inl (a 0, 16, .inl (μ_68.1 0))), (q1, .inl (a 0, 64, .inl (μ_68.1 1))), (q4, .inl (a 1, 16, .inr (.inl (μ_68.2 4)))), (q5, .inl (a 1, 4, .inr (.inl (μ_68.2 5))))] none s.heap H locs → lv_has ls 18 [(0, .ref q0), (1, .ref q1), (2, .int p2), (3, .int p3), (4, .ref q4), (5, .ref q5), (6, .long v6_68), (8, .long v8_68), (10, .long v10_68), (12, .int v12_68)] → W p l e R s m args below meth c H locs (k_39 + 513) (j_39 + 2064) Q (F0 m 68 ls []) := by
      intro v6_68 v8_68 v10_68 v12_68 μ_68 hok H locs ls hM hl
      refine lv_lload hx hb dL_all_68 (lv_at hl 7 rfl) ?_
      refine lv_aload_n hx hb dL_all_70 rfl (lv_at hl 1 rfl) ?_
      refine lv_bipush (v := 9) hx hb dL_all_71 (by decide) ?_
      refine lv_iload hx hb dL_all_73 (lv_at hl 9 rfl) ?_
      refine lv_imul hx hb dL_all_75 ?_
      refine lv_iconst (v := 3) hx hb dL_all_76 (by decide) ?_
      refine lv_iadd hx hb dL_all_77 ?_
      have ok_29 := And.left hok
      have hok := And.right hok
      refine la_I C hM 1 rfl ok_29 dL_all_78 ?_
      refine lv_i2l (v := ((mi μ_68 1 (ix ((9 * v12_68) + 3))).toInt64)) hx hb dL_all_79 rfl ?_
      refine lv_ladd hx hb dL_all_80 ?_
      refine lv_lstore (lv' := [(8, .long (v8_68 + ((mi μ_68 1 (ix ((9 * v12_68) + 3))).toInt64))), (0, .ref q0), (1, .ref q1), (2, .int p2), (3, .int p3), (4, .ref q4), (5, .ref q5), (6, .long v6_68), (10, .long v10_68), (12, .int v12_68)]) hx hb dL_all_81 hl (by decide) rfl (fun ls hl => ?_)
      refine lv_aload hx hb dL_all_83 (lv_at hl 5 rfl) ?_
      refine lv_bipush (v := 6) hx hb dL_all_85 (by decide) ?_
      refine lv_dup2_11 hx hb dL_all_87 rfl rfl ?_
      refine la_J C hM 2 rfl (lit_in (by decide) (by decide)) dL_all_88 ?_
      refine lv_aload_n hx hb dL_all_89 rfl (lv_at hl 2 rfl) ?_
      refine lv_bipush (v := 9) hx hb dL_all_90 (by decide) ?_
      refine lv_iload hx hb dL_all_92 (lv_at hl 9 rfl) ?_
      refine lv_imul hx hb dL_all_94 ?_
      refine lv_iconst (v := 3) hx hb dL_all_95 (by decide) ?_
      refine lv_iadd hx hb dL_all_96 ?_
      have ok_30 := And.left hok
      have hok := And.right hok
      refine la_I C hM 1 rfl ok_30 dL_all_97 ?_
      refine lv_i2l (v := ((mi μ_68 1 (ix ((9 * v12_68) + 3))).toInt64)) hx hb dL_all_98 rfl ?_
      refine lv_aload_n hx hb dL_all_99 rfl (lv_at hl 2 rfl) ?_
      refine lv_bipush (v := 9) hx hb dL_all_100 (by decide) ?_
      refine lv_iload hx hb dL_all_102 (lv_at hl 9 rfl) ?_
      refine lv_imul hx hb dL_all_104 ?_
      refine lv_iconst (v := 4) hx hb dL_all_105 (by decide) ?_
      refine lv_iadd hx hb dL_all_106 ?_
      have ok_31 := And.left hok
      have hok := And.right hok
      refine la_I C hM 1 rfl ok_31 dL_all_107 ?_
      refine lv_i2l (v := ((mi μ_68 1 (ix ((9 * v12_68) + 4))).toInt64)) hx hb dL_all_108 rfl ?_
      refine lv_lmul hx hb dL_all_109 ?_
      refine lv_ladd hx hb dL_all_110 ?_
      refine ls_J C hM 2 rfl hA4 (lit_in (by decide) (by decide)) dL_all_111 (fun H locs hM => ?_)
      have hM : HL D a 0 0 A [(q0, .inl (a 0, 16, .inl ((mL μ_68 4 (ix 6) ((ml μ_68 4 (ix 6)) + (((mi μ_68 1 (ix ((9 * v12_68) + 3))).toInt64) * ((mi μ_68 1 (ix ((9 * v12_68) + 4))).toInt64)))).1 0))), (q1, .inl (a 0, 64, .inl ((mL μ_68 4 (ix 6) ((ml μ_68 4 (ix 6)) + (((mi μ_68 1 (ix ((9 * v12_68) + 3))).toInt64) * ((mi μ_68 1 (ix ((9 * v12_68) + 4))).toInt64)))).1 1))), (q4, .inl (a 1, 16, .inr (.inl ((mL μ_68 4 (ix 6) ((ml μ_68 4 (ix 6)) + (((mi μ_68 1 (ix ((9 * v12_68) + 3))).toInt64) * ((mi μ_68 1 (ix ((9 * v12_68) + 4))).toInt64)))).2 4)))), (q5, .inl (a 1, 4, .inr (.inl ((mL μ_68 4 (ix 6) ((ml μ_68 4 (ix 6)) + (((mi μ_68 1 (ix ((9 * v12_68) + 3))).toInt64) * ((mi μ_68 1 (ix ((9 * v12_68) + 4))).toInt64)))).2 5))))] none s.heap H locs := hM
      refine W.widen (k := (k_39 + 513)) (n := (j_39 + 2064)) (by omega) (by omega) ?_
      exact J_l39_112 v6_68 (v8_68 + ((mi μ_68 1 (ix ((9 * v12_68) + 3))).toInt64)) v10_68 v12_68 (mL μ_68 4 (ix 6) ((ml μ_68 4 (ix 6)) + (((mi μ_68 1 (ix ((9 * v12_68) + 3))).toInt64) * ((mi μ_68 1 (ix ((9 * v12_68) + 4))).toInt64)))) hok _ _ ls hM (lv_sub hl [1, 2, 3, 4, 5, 6, 7, 0, 8, 9] rfl)
    refine lv_iload hx hb dL_all_39 (lv_at hl 9 rfl) ?_
    refine lv_iload_n hx hb dL_all_41 rfl (lv_at hl 2 rfl) ?_
    refine lv_icmp_ge (tgt := 261) hx hb dL_all_42 (by decide) (fun c_22 => ?_) (fun c_22 => ?_)
    · have hok := oif_pos hok c_22
      have hM : HL D a 0 0 A [(q0, .inl (a 0, 16, .inl (μw_39.1 0))), (q1, .inl (a 0, 64, .inl (μw_39.1 1))), (q4, .inl (a 1, 16, .inr (.inl (μw_39.2 4))))] none s.heap H locs := hM.sub [0, 1, 2] rfl rfl
      refine W.widen (k := 4169) (n := 16772) (by omega) (by omega) ?_
      exact J_m261 w6_39 w8_39 w10_39 μw_39 hok _ _ ls hM (lv_sub hl [4, 6, 7, 8] rfl)
    · have hok := oif_neg hok c_22
      refine lv_aload_n hx hb dL_all_45 rfl (lv_at hl 0 rfl) ?_
      refine lv_aload_n hx hb dL_all_46 rfl (lv_at hl 1 rfl) ?_
      refine lv_iload_n hx hb dL_all_47 rfl (lv_at hl 2 rfl) ?_
      refine lv_iload hx hb dL_all_48 (lv_at hl 9 rfl) ?_
      obtain ⟨S9_23, w9_24, g9_25⟩ := hok
      refine lc_0 (av := [.ref q0, .ref q1, .int p2, .int w12_39]) C hM hAf [0, 1] rfl rfl (fun A9 => k_L_group l D a A9 q0 q1 μw_39 p2 w12_39 S9_23 w9_24) cw_L_26 (okR_of hRf hRl (Nat.le_of_ble_eq_true rfl) (Nat.le_of_ble_eq_true rfl)) rfl rfl hl.1 (Nat.le_of_ble_eq_true rfl) (by omega) (by omega) dL_all_50 (fun H locs v9 hM hP9 => ?_)
      obtain ⟨v9_27, hS_26, rfl⟩ := hP9
      have hM : HL D a 0 0 A [(q0, .inl (a 0, 16, .inl (μw_39.1 0))), (q1, .inl (a 0, 64, .inl (μw_39.1 1))), (q4, .inl (a 1, 16, .inr (.inl (μw_39.2 4)))), (q5, .inl (a 1, 4, .inr (.inl (μw_39.2 5))))] none s.heap H locs := hM
      have hok := g9_25 v9_27 hS_26
      refine lv_iload_n hx hb dL_all_53 rfl (lv_at hl 3 rfl) ?_
      refine lv_icmp_eq (tgt := 60) hx hb dL_all_54 (by decide) (fun c_28 => ?_) (fun c_28 => ?_)
      · have hok := oif_pos hok c_28
        refine lv_aload hx hb dL_all_60 (lv_at hl 4 rfl) ?_
        refine lv_iconst (v := 0) hx hb dL_all_62 (by decide) ?_
        refine lv_dup2_11 hx hb dL_all_63 rfl rfl ?_
        refine la_J C hM 2 rfl (lit_in (by decide) (by decide)) dL_all_64 ?_
        refine lv_lconst (v := 1) hx hb dL_all_65 (by decide) ?_
        refine lv_ladd hx hb dL_all_66 ?_
        refine ls_J C hM 2 rfl hA4 (lit_in (by decide) (by decide)) dL_all_67 (fun H locs hM => ?_)
        have hM : HL D a 0 0 A [(q0, .inl (a 0, 16, .inl ((mL μw_39 4 (ix 0) ((ml μw_39 4 (ix 0)) + 1)).1 0))), (q1, .inl (a 0, 64, .inl ((mL μw_39 4 (ix 0) ((ml μw_39 4 (ix 0)) + 1)).1 1))), (q4, .inl (a 1, 16, .inr (.inl ((mL μw_39 4 (ix 0) ((ml μw_39 4 (ix 0)) + 1)).2 4)))), (q5, .inl (a 1, 4, .inr (.inl ((mL μw_39 4 (ix 0) ((ml μw_39 4 (ix 0)) + 1)).2 5))))] none s.heap H locs := hM
        refine W.widen (k := (k_39 + 513)) (n := (j_39 + 2064)) (by omega) (by omega) ?_
        exact J_l39_68 w6_39 w8_39 w10_39 w12_39 (mL μw_39 4 (ix 0) ((ml μw_39 4 (ix 0)) + 1)) hok _ _ ls hM (lv_sub hl [0, 1, 2, 3, 4, 5, 6, 7, 8, 9] rfl)
      · have hok := oif_neg hok c_28
        refine lv_goto (tgt := 255) hx hb dL_all_57 (by decide) ?_
        refine W.widen (k := (k_39 + 521)) (n := (j_39 + 2096)) (by omega) (by omega) ?_
        exact J_l39_255 w6_39 w8_39 w10_39 w12_39 μw_39 hok _ _ ls hM (lv_sub hl [0, 1, 2, 3, 4, 5, 6, 7, 8, 9] rfl)
  have J_m27 : ∀ (q5 : Nat) (hA5 : A q5) (μ_27 : MS), w_L_all_m27 p2 p3 K μ_27 → ∀ (H : Heap) (locs : List Loc) (ls : Array Slot), HL D a 0 0 A [(q0, .inl (a 0, 16, .inl (μ_27.1 0))), (q1, .inl (a 0, 64, .inl (μ_27.1 1))), (q4, .inl (a 1, 16, .inr (.inl (μ_27.2 4)))), (q5, .inl (a 1, 4, .inr (.inl (μ_27.2 5))))] none s.heap H locs → lv_has ls 18 [(0, .ref q0), (1, .ref q1), (2, .int p2), (3, .int p3), (4, .ref q4), (5, .ref q5)] → W p l e R s m args below meth c H locs 1 4 Q (F0 m 27 ls []) := by
    intro q5 hA5 μ_27 hok H locs ls hM hl
    refine lv_lconst (v := 0) hx hb dL_all_27 (by decide) ?_
    refine lv_lstore (lv' := [(6, .long 0), (0, .ref q0), (1, .ref q1), (2, .int p2), (3, .int p3), (4, .ref q4), (5, .ref q5)]) hx hb dL_all_28 hl (by decide) rfl (fun ls hl => ?_)
    refine lv_lconst (v := 0) hx hb dL_all_30 (by decide) ?_
    refine lv_lstore (lv' := [(8, .long 0), (6, .long 0), (0, .ref q0), (1, .ref q1), (2, .int p2), (3, .int p3), (4, .ref q4), (5, .ref q5)]) hx hb dL_all_31 hl (by decide) rfl (fun ls hl => ?_)
    refine lv_lconst (v := 0) hx hb dL_all_33 (by decide) ?_
    refine lv_lstore (lv' := [(10, .long 0), (8, .long 0), (6, .long 0), (0, .ref q0), (1, .ref q1), (2, .int p2), (3, .int p3), (4, .ref q4), (5, .ref q5)]) hx hb dL_all_34 hl (by decide) rfl (fun ls hl => ?_)
    refine lv_iconst (v := 0) hx hb dL_all_36 (by decide) ?_
    refine lv_istore (lv' := [(12, .int 0), (10, .long 0), (8, .long 0), (6, .long 0), (0, .ref q0), (1, .ref q1), (2, .int p2), (3, .int p3), (4, .ref q4), (5, .ref q5)]) hx hb dL_all_37 hl (by decide) rfl (fun ls hl => ?_)
    refine W.widen (k := 1) (n := 4) (by omega) (by omega) ?_
    exact J_m39 q5 hA5 0 0 0 0 μ_27 hok _ _ ls hM (lv_sub hl [4, 5, 6, 7, 8, 9, 3, 2, 1, 0] rfl)
  have J_m8 : ∀ (q5 : Nat) (hA5 : A q5) (v6_8 : Int32) (μ_8 : MS), w_L_all_m8 p2 p3 K v6_8 μ_8 → ∀ (H : Heap) (locs : List Loc) (ls : Array Slot), HL D a 0 0 A [(q0, .inl (a 0, 16, .inl (μ_8.1 0))), (q1, .inl (a 0, 64, .inl (μ_8.1 1))), (q4, .inl (a 1, 16, .inr (.inl (μ_8.2 4)))), (q5, .inl (a 1, 4, .inr (.inl (μ_8.2 5))))] none s.heap H locs → lv_has ls 18 [(0, .ref q0), (1, .ref q1), (2, .int p2), (3, .int p3), (4, .ref q4), (5, .ref q5), (6, .int v6_8)] → W p l e R s m args below meth c H locs 1 4 Q (F0 m 8 ls []) := by
    intro q5 hA5 v6_8 μ_8 hok H locs ls hM hl
    obtain ⟨I9_58, i9_59, n9_60, s9_61⟩ := hok
    refine inv_W (I := I9_58) (fun (n : Nat) (v : Int32 × MS) => ∀ (k j : Nat) (H : Heap) (locs : List Loc) (ls : Array Slot), k + bud n 0 ≤ 1 → j + bud n 0 ≤ 4 → HL D a 0 0 A [(q0, .inl (a 0, 16, .inl (v.2.1 0))), (q1, .inl (a 0, 64, .inl (v.2.1 1))), (q4, .inl (a 1, 16, .inr (.inl (v.2.2 4)))), (q5, .inl (a 1, 4, .inr (.inl (v.2.2 5))))] none s.heap H locs → lv_has ls 18 [(0, .ref q0), (1, .ref q1), (2, .int p2), (3, .int p3), (4, .ref q4), (5, .ref q5), (6, .int v.1)] → W p l e R s m args below meth c H locs k j Q (F0 m 8 ls [])) n9_60 (fun n_8 v hI9 kc9 => ?_) 13 (v6_8, μ_8) i9_59 _ _ _ _ ls (bud_e (t := 0) (by omega) rfl) (bud_e (t := 0) (by omega) rfl) hM (lv_sub hl [0, 1, 2, 3, 4, 5, 6] rfl)
    obtain ⟨w6_8, μw_8⟩ := v
    have hok : b_L_all_8 p2 p3 K w6_8 μw_8 (I9_58 n_8) (fun (v : Int32 × MS) => (w_L_all_m27 p2 p3 K v.2)) := s9_61 n_8 (w6_8, μw_8) hI9
    intro k_8 j_8 H locs ls hk_8 hj_8 hM hl
    replace hk_8 := bud_s hk_8
    replace hj_8 := bud_s hj_8
    have J_l8_21 : ∀  (v6_21 : Int32) (μ_21 : MS), w_L_all_l8_21 p2 p3 K w6_8 μw_8 (I9_58 n_8) (fun (v : Int32 × MS) => (w_L_all_m27 p2 p3 K v.2)) v6_21 μ_21 → ∀ (H : Heap) (locs : List Loc) (ls : Array Slot), HL D a 0 0 A [(q0, .inl (a 0, 16, .inl (μ_21.1 0))), (q1, .inl (a 0, 64, .inl (μ_21.1 1))), (q4, .inl (a 1, 16, .inr (.inl (μ_21.2 4)))), (q5, .inl (a 1, 4, .inr (.inl (μ_21.2 5))))] none s.heap H locs → lv_has ls 18 [(0, .ref q0), (1, .ref q1), (2, .int p2), (3, .int p3), (4, .ref q4), (5, .ref q5), (6, .int v6_21)] → W p l e R s m args below meth c H locs (k_8 + 0) (j_8 + 0) Q (F0 m 21 ls []) := by
      intro v6_21 μ_21 hok H locs ls hM hl
      refine lv_iinc (v := (v6_21 + 1)) (lv' := [(6, .int (v6_21 + 1)), (0, .ref q0), (1, .ref q1), (2, .int p2), (3, .int p3), (4, .ref q4), (5, .ref q5)]) hx hb dL_all_21 hl (k := 6) rfl rfl (by decide) rfl (fun ls hl => ?_)
      refine lv_goto (tgt := 8) hx hb dL_all_24 (by decide) ?_
      exact kc9 ((v6_21 + 1), μ_21) hok _ _ _ _ _ (by omega) (by omega) hM (lv_sub hl [1, 2, 3, 4, 5, 6, 0] rfl)
    refine lv_iload hx hb dL_all_8 (lv_at hl 6 rfl) ?_
    refine lv_bipush (v := 12) hx hb dL_all_10 (by decide) ?_
    refine lv_icmp_ge (tgt := 27) hx hb dL_all_12 (by decide) (fun c_62 => ?_) (fun c_62 => ?_)
    · have hok := oif_pos hok c_62
      refine W.widen (k := 1) (n := 4) (by omega) (by omega) ?_
      exact J_m27 q5 hA5 μw_8 hok _ _ ls hM (lv_sub hl [0, 1, 2, 3, 4, 5] rfl)
    · have hok := oif_neg hok c_62
      refine lv_aload hx hb dL_all_15 (lv_at hl 4 rfl) ?_
      refine lv_iload hx hb dL_all_17 (lv_at hl 6 rfl) ?_
      refine lv_lconst (v := 0) hx hb dL_all_19 (by decide) ?_
      have ok_63 := And.left hok
      have hok := And.right hok
      refine ls_J C hM 2 rfl hA4 ok_63 dL_all_20 (fun H locs hM => ?_)
      have hM : HL D a 0 0 A [(q0, .inl (a 0, 16, .inl ((mL μw_8 4 (ix w6_8) 0).1 0))), (q1, .inl (a 0, 64, .inl ((mL μw_8 4 (ix w6_8) 0).1 1))), (q4, .inl (a 1, 16, .inr (.inl ((mL μw_8 4 (ix w6_8) 0).2 4)))), (q5, .inl (a 1, 4, .inr (.inl ((mL μw_8 4 (ix w6_8) 0).2 5))))] none s.heap H locs := hM
      refine W.widen (k := (k_8 + 0)) (n := (j_8 + 0)) (by omega) (by omega) ?_
      exact J_l8_21 w6_8 (mL μw_8 4 (ix w6_8) 0) hok _ _ ls hM (lv_sub hl [0, 1, 2, 3, 4, 5, 6] rfl)
  refine lv_iconst (v := nI 4) hx hb dL_all_0 (by decide) ?_
  refine ln_J C hM hAf (N := 4) (by omega) (by omega) (by omega) dL_all_1 (fun q5 H locs hA5 hM => ?_)
  have hM : HL D a 0 0 A [(q0, .inl (a 0, 16, .inl ((mZJ μ 5).1 0))), (q1, .inl (a 0, 64, .inl ((mZJ μ 5).1 1))), (q4, .inl (a 1, 16, .inr (.inl ((mZJ μ 5).2 4)))), (q5, .inl (a 1, 4, .inr (.inl ((mZJ μ 5).2 5))))] none s.heap H locs := hM
  refine lv_astore (lv' := [(5, .ref q5), (0, .ref q0), (1, .ref q1), (2, .int p2), (3, .int p3), (4, .ref q4)]) hx hb dL_all_3 hl (by decide) rfl (fun ls hl => ?_)
  refine lv_iconst (v := 0) hx hb dL_all_5 (by decide) ?_
  refine lv_istore (lv' := [(6, .int 0), (5, .ref q5), (0, .ref q0), (1, .ref q1), (2, .int p2), (3, .int p3), (4, .ref q4)]) hx hb dL_all_6 hl (by decide) rfl (fun ls hl => ?_)
  refine W.widen (k := 1) (n := 4) (by omega) (by omega) ?_
  exact J_m8 q5 hA5 0 (mZJ μ 5) hok _ _ ls hM (lv_sub hl [2, 3, 4, 5, 6, 1, 0] rfl)
def w_L_weight_m243 (μ : MS) (p2 : Int32) (p3 : Int32) (p4 : Int32) (p5 : Int32) (K : Int64 → Prop) (v6_243 : Int64) : Prop := (K v6_243)
def w_L_weight_l165_237 (μ : MS) (p2 : Int32) (p3 : Int32) (p4 : Int32) (p5 : Int32) (K : Int64 → Prop) (w6_165 : Int64) (w8_165 : Int32) (KC : (Int64 × Int32) → Prop) (KE : (Int64 × Int32) → Prop) (v6_237 : Int64) (v8_237 : Int32) : Prop := (KC (v6_237, (v8_237 + 1)))
def b_L_weight_165 (μ : MS) (p2 : Int32) (p3 : Int32) (p4 : Int32) (p5 : Int32) (K : Int64 → Prop) (w6_165 : Int64) (w8_165 : Int32) (KC : (Int64 × Int32) → Prop) (KE : (Int64 × Int32) → Prop) : Prop := (oif ((mi μ 2 (ix 10)) ≤ w8_165) (KE (w6_165, w8_165)) (vp_in (11 + (4 * w8_165)) 64 ∧ (oif ((mi μ 2 (ix (11 + (4 * w8_165)))) = p3) (vp_in (12 + (4 * w8_165)) 64 ∧ (oif ((mi μ 2 (ix (12 + (4 * w8_165)))) = p4) (vp_in (13 + (4 * w8_165)) 64 ∧ (oif ((mi μ 2 (ix (13 + (4 * w8_165)))) = p5) (vp_in (14 + (4 * w8_165)) 64 ∧ (w_L_weight_l165_237 μ p2 p3 p4 p5 K w6_165 w8_165 KC KE ((w6_165 * ((100 - (mi μ 2 (ix (14 + (4 * w8_165))))).toInt64)) / 100) w8_165)) (w_L_weight_l165_237 μ p2 p3 p4 p5 K w6_165 w8_165 KC KE w6_165 w8_165))) (w_L_weight_l165_237 μ p2 p3 p4 p5 K w6_165 w8_165 KC KE w6_165 w8_165))) (w_L_weight_l165_237 μ p2 p3 p4 p5 K w6_165 w8_165 KC KE w6_165 w8_165))))
def w_L_weight_m165 (μ : MS) (p2 : Int32) (p3 : Int32) (p4 : Int32) (p5 : Int32) (K : Int64 → Prop) (v6_165 : Int64) (v8_165 : Int32) : Prop := (winv 7 (fun (v : Int64 × Int32) KC KE => b_L_weight_165 μ p2 p3 p4 p5 K v.1 v.2 KC KE) (v6_165, v8_165) (fun (v : Int64 × Int32) => (w_L_weight_m243 μ p2 p3 p4 p5 K v.1)))
def w_L_weight_m154 (μ : MS) (p2 : Int32) (p3 : Int32) (p4 : Int32) (p5 : Int32) (K : Int64 → Prop) (v6_154 : Int64) : Prop := (w_L_weight_m165 μ p2 p3 p4 p5 K (v6_154 * 1000000) 0)
def w_L_weight_l6_148 (μ : MS) (p2 : Int32) (p3 : Int32) (p4 : Int32) (p5 : Int32) (K : Int64 → Prop) (w6_6 : Int64) (w8_6 : Int32) (KC : (Int64 × Int32) → Prop) (KE : (Int64 × Int32) → Prop) (v6_148 : Int64) (v8_148 : Int32) : Prop := (KC (v6_148, (v8_148 + 1)))
def w_L_weight_l6_126 (μ : MS) (p2 : Int32) (p3 : Int32) (p4 : Int32) (p5 : Int32) (K : Int64 → Prop) (w6_6 : Int64) (w8_6 : Int32) (KC : (Int64 × Int32) → Prop) (KE : (Int64 × Int32) → Prop) (v6_126 : Int64) (v8_126 : Int32) (t0_126 : Int64) : Prop := (oif (0 ≤ (lg_cmp t0_126 8)) (w_L_weight_l6_148 μ p2 p3 p4 p5 K w6_6 w8_6 KC KE v6_126 v8_126) (w_L_weight_l6_148 μ p2 p3 p4 p5 K w6_6 w8_6 KC KE (v6_126 + (8 - t0_126)) v8_126))
def w_L_weight_l6_109 (μ : MS) (p2 : Int32) (p3 : Int32) (p4 : Int32) (p5 : Int32) (K : Int64 → Prop) (w6_6 : Int64) (w8_6 : Int32) (KC : (Int64 × Int32) → Prop) (KE : (Int64 × Int32) → Prop) (v6_109 : Int64) (v8_109 : Int32) (v9_109 : Int64) (t0_109 : Int64) : Prop := (oif ((lg_cmp v9_109 t0_109) ≤ 0) (w_L_weight_l6_126 μ p2 p3 p4 p5 K w6_6 w8_6 KC KE v6_109 v8_109 t0_109) (w_L_weight_l6_126 μ p2 p3 p4 p5 K w6_6 w8_6 KC KE v6_109 v8_109 v9_109))
def w_L_weight_l6_92 (μ : MS) (p2 : Int32) (p3 : Int32) (p4 : Int32) (p5 : Int32) (K : Int64 → Prop) (w6_6 : Int64) (w8_6 : Int32) (KC : (Int64 × Int32) → Prop) (KE : (Int64 × Int32) → Prop) (v6_92 : Int64) (v8_92 : Int32) (v11_92 : Int64) (t0_92 : Int64) : Prop := (oif (0 ≤ (lg_cmp v11_92 0)) (w_L_weight_l6_109 μ p2 p3 p4 p5 K w6_6 w8_6 KC KE v6_92 v8_92 t0_92 v11_92) (w_L_weight_l6_109 μ p2 p3 p4 p5 K w6_6 w8_6 KC KE v6_92 v8_92 t0_92 (-v11_92)))
def w_L_weight_l6_77 (μ : MS) (p2 : Int32) (p3 : Int32) (p4 : Int32) (p5 : Int32) (K : Int64 → Prop) (w6_6 : Int64) (w8_6 : Int32) (KC : (Int64 × Int32) → Prop) (KE : (Int64 × Int32) → Prop) (v6_77 : Int64) (v8_77 : Int32) (v9_77 : Int64) (v11_77 : Int64) : Prop := (oif (0 ≤ (lg_cmp v9_77 0)) (w_L_weight_l6_92 μ p2 p3 p4 p5 K w6_6 w8_6 KC KE v6_77 v8_77 v11_77 v9_77) (w_L_weight_l6_92 μ p2 p3 p4 p5 K w6_6 w8_6 KC KE v6_77 v8_77 v11_77 (-v9_77)))
def w_L_weight_l6_44 (μ : MS) (p2 : Int32) (p3 : Int32) (p4 : Int32) (p5 : Int32) (K : Int64 → Prop) (w6_6 : Int64) (w8_6 : Int32) (KC : (Int64 × Int32) → Prop) (KE : (Int64 × Int32) → Prop) (v6_44 : Int64) (v8_44 : Int32) (v9_44 : Int64) : Prop := (vp_in ((2 * p2) + 1) 64 ∧ (w_L_weight_l6_77 μ p2 p3 p4 p5 K w6_6 w8_6 KC KE v6_44 v8_44 v9_44 ((f_L_down ((ml μ 4 (ix 4)) + ((((mi μ 2 (ix ((2 * p2) + 1))) * 20) * (6 - v8_44)).toInt64)) 100) - p5.toInt64)))
def b_L_weight_6 (μ : MS) (p2 : Int32) (p3 : Int32) (p4 : Int32) (p5 : Int32) (K : Int64 → Prop) (w6_6 : Int64) (w8_6 : Int32) (KC : (Int64 × Int32) → Prop) (KE : (Int64 × Int32) → Prop) : Prop := (oif (6 ≤ w8_6) (KE (w6_6, w8_6)) (vp_in (2 * p2) 64 ∧ (w_L_weight_l6_44 μ p2 p3 p4 p5 K w6_6 w8_6 KC KE w6_6 w8_6 ((f_L_down ((ml μ 4 (ix 3)) + ((((mi μ 2 (ix (2 * p2))) * 20) * (6 - w8_6)).toInt64)) 100) - p4.toInt64))))
def w_L_weight_m6 (μ : MS) (p2 : Int32) (p3 : Int32) (p4 : Int32) (p5 : Int32) (K : Int64 → Prop) (v6_6 : Int64) (v8_6 : Int32) : Prop := (winv 6 (fun (v : Int64 × Int32) KC KE => b_L_weight_6 μ p2 p3 p4 p5 K v.1 v.2 KC KE) (v6_6, v8_6) (fun (v : Int64 × Int32) => (w_L_weight_m154 μ p2 p3 p4 p5 K v.1)))
def w_L_weight (μ : MS) (p2 : Int32) (p3 : Int32) (p4 : Int32) (p5 : Int32) (K : Int64 → Prop) : Prop := (w_L_weight_m6 μ p2 p3 p4 p5 K 0 1)
set_option maxHeartbeats 4000000 in
set_option maxRecDepth 100000 in
theorem k_L_weight (l : Launch) (D : va_G) (a : Nat → ClassId) (A : Nat → Prop) (q2 : Nat) (q4 : Nat) (μ : MS) (p2 : Int32) (p3 : Int32) (p4 : Int32) (p5 : Int32) (K : Int64 → Prop)  (hok : w_L_weight μ p2 p3 p4 p5 K) : KG l yL_weight cL_weight 15 (some .long) 1 25 0 0 [.ref q2, .ref q4, .int p2, .int p3, .int p4, .int p5] A (BLa D a A [(q2, .inl (a 0, 64, .inl (μ.1 2))), (q4, .inl (a 1, 16, .inr (.inl (μ.2 4))))]) (fun _ v _ => ∃ v9, K v9 ∧ v = some (.long v9)) := by
  refine goLl (D := D) (a := a) (by decide +kernel) bla_good (Nat.le_of_ble_eq_true rfl) ?_
  intro p e s m args below meth c ls R Q hRf hRl hRc hRs C hB hl ret
  obtain ⟨-, hAf, hP, hD⟩ := hB
  have hM : HL D a 0 0 A [(q2, .inl (a 0, 64, .inl (μ.1 2))), (q4, .inl (a 1, 16, .inr (.inl (μ.2 4))))] none s.heap s.heap [] := ⟨hP, hD, va_S.rf, trivial⟩
  have hl : lv_has ls 15 [(0, .ref q2), (1, .ref q4), (2, .int p2), (3, .int p3), (4, .int p4), (5, .int p5)] := hl
  have hx := C.1.1
  have hb := C.1.2.1
  have hts := C.1.2.2.2.2
  have hown := C.1.2.2.2.1
  have J_m243 : ∀  (v6_243 : Int64), w_L_weight_m243 μ p2 p3 p4 p5 K v6_243 → ∀ (H : Heap) (locs : List Loc) (ls : Array Slot), HL D a 0 0 A [(q2, .inl (a 0, 64, .inl (μ.1 2))), (q4, .inl (a 1, 16, .inr (.inl (μ.2 4))))] none s.heap H locs → lv_has ls 15 [(6, .long v6_243)] → W p l e R s m args below meth c H locs 0 0 Q (F0 m 243 ls []) := by
    intro v6_243 hok H locs ls hM hl
    refine lv_lload hx hb dL_weight_243 (lv_at hl 0 rfl) ?_
    refine W.widen (k := 0) (n := 0) (by omega) (by omega) ?_
    exact ret _ _ _ _ _ hM.2.2.1 dL_weight_245 ⟨_, hok, rfl⟩
  have J_m165 : ∀  (v6_165 : Int64) (v8_165 : Int32), w_L_weight_m165 μ p2 p3 p4 p5 K v6_165 v8_165 → ∀ (H : Heap) (locs : List Loc) (ls : Array Slot), HL D a 0 0 A [(q2, .inl (a 0, 64, .inl (μ.1 2))), (q4, .inl (a 1, 16, .inr (.inl (μ.2 4))))] none s.heap H locs → lv_has ls 15 [(0, .ref q2), (3, .int p3), (4, .int p4), (5, .int p5), (6, .long v6_165), (8, .int v8_165)] → W p l e R s m args below meth c H locs 0 0 Q (F0 m 165 ls []) := by
    intro v6_165 v8_165 hok H locs ls hM hl
    obtain ⟨I9_1, i9_2, n9_3, s9_4⟩ := hok
    refine inv_W (I := I9_1) (fun (n : Nat) (v : Int64 × Int32) => ∀ (k j : Nat) (H : Heap) (locs : List Loc) (ls : Array Slot), k + bud n 0 ≤ 0 → j + bud n 0 ≤ 0 → HL D a 0 0 A [(q2, .inl (a 0, 64, .inl (μ.1 2))), (q4, .inl (a 1, 16, .inr (.inl (μ.2 4))))] none s.heap H locs → lv_has ls 15 [(0, .ref q2), (3, .int p3), (4, .int p4), (5, .int p5), (6, .long v.1), (8, .int v.2)] → W p l e R s m args below meth c H locs k j Q (F0 m 165 ls [])) n9_3 (fun n_165 v hI9 kc9 => ?_) 7 (v6_165, v8_165) i9_2 _ _ _ _ ls (bud_e (t := 0) (by omega) rfl) (bud_e (t := 0) (by omega) rfl) hM (lv_sub hl [0, 1, 2, 3, 4, 5] rfl)
    obtain ⟨w6_165, w8_165⟩ := v
    have hok : b_L_weight_165 μ p2 p3 p4 p5 K w6_165 w8_165 (I9_1 n_165) (fun (v : Int64 × Int32) => (w_L_weight_m243 μ p2 p3 p4 p5 K v.1)) := s9_4 n_165 (w6_165, w8_165) hI9
    intro k_165 j_165 H locs ls hk_165 hj_165 hM hl
    replace hk_165 := bud_s hk_165
    replace hj_165 := bud_s hj_165
    have J_l165_237 : ∀  (v6_237 : Int64) (v8_237 : Int32), w_L_weight_l165_237 μ p2 p3 p4 p5 K w6_165 w8_165 (I9_1 n_165) (fun (v : Int64 × Int32) => (w_L_weight_m243 μ p2 p3 p4 p5 K v.1)) v6_237 v8_237 → ∀ (H : Heap) (locs : List Loc) (ls : Array Slot), HL D a 0 0 A [(q2, .inl (a 0, 64, .inl (μ.1 2))), (q4, .inl (a 1, 16, .inr (.inl (μ.2 4))))] none s.heap H locs → lv_has ls 15 [(0, .ref q2), (3, .int p3), (4, .int p4), (5, .int p5), (6, .long v6_237), (8, .int v8_237)] → W p l e R s m args below meth c H locs (k_165 + 0) (j_165 + 0) Q (F0 m 237 ls []) := by
      intro v6_237 v8_237 hok H locs ls hM hl
      refine lv_iinc (v := (v8_237 + 1)) (lv' := [(8, .int (v8_237 + 1)), (0, .ref q2), (3, .int p3), (4, .int p4), (5, .int p5), (6, .long v6_237)]) hx hb dL_weight_237 hl (k := 5) rfl rfl (by decide) rfl (fun ls hl => ?_)
      refine lv_goto (tgt := 165) hx hb dL_weight_240 (by decide) ?_
      exact kc9 (v6_237, (v8_237 + 1)) hok _ _ _ _ _ (by omega) (by omega) hM (lv_sub hl [1, 2, 3, 4, 5, 0] rfl)
    refine lv_iload hx hb dL_weight_165 (lv_at hl 5 rfl) ?_
    refine lv_aload_n hx hb dL_weight_167 rfl (lv_at hl 0 rfl) ?_
    refine lv_bipush (v := 10) hx hb dL_weight_168 (by decide) ?_
    refine la_I C hM 0 rfl (lit_in (by decide) (by decide)) dL_weight_170 ?_
    refine lv_icmp_ge (tgt := 243) hx hb dL_weight_171 (by decide) (fun c_5 => ?_) (fun c_5 => ?_)
    · have hok := oif_pos hok c_5
      refine W.widen (k := 0) (n := 0) (by omega) (by omega) ?_
      exact J_m243 w6_165 hok _ _ ls hM (lv_sub hl [4] rfl)
    · have hok := oif_neg hok c_5
      refine lv_aload_n hx hb dL_weight_174 rfl (lv_at hl 0 rfl) ?_
      refine lv_bipush (v := 11) hx hb dL_weight_175 (by decide) ?_
      refine lv_iconst (v := 4) hx hb dL_weight_177 (by decide) ?_
      refine lv_iload hx hb dL_weight_178 (lv_at hl 5 rfl) ?_
      refine lv_imul hx hb dL_weight_180 ?_
      refine lv_iadd hx hb dL_weight_181 ?_
      have ok_6 := And.left hok
      have hok := And.right hok
      refine la_I C hM 0 rfl ok_6 dL_weight_182 ?_
      refine lv_iload_n hx hb dL_weight_183 rfl (lv_at hl 1 rfl) ?_
      refine lv_icmp_ne (tgt := 237) hx hb dL_weight_184 (by decide) (fun c_7 => ?_) (fun c_7 => ?_)
      · have hok := oif_neg hok c_7
        refine W.widen (k := (k_165 + 0)) (n := (j_165 + 0)) (by omega) (by omega) ?_
        exact J_l165_237 w6_165 w8_165 hok _ _ ls hM (lv_sub hl [0, 1, 2, 3, 4, 5] rfl)
      · have hok := oif_pos hok c_7
        refine lv_aload_n hx hb dL_weight_187 rfl (lv_at hl 0 rfl) ?_
        refine lv_bipush (v := 12) hx hb dL_weight_188 (by decide) ?_
        refine lv_iconst (v := 4) hx hb dL_weight_190 (by decide) ?_
        refine lv_iload hx hb dL_weight_191 (lv_at hl 5 rfl) ?_
        refine lv_imul hx hb dL_weight_193 ?_
        refine lv_iadd hx hb dL_weight_194 ?_
        have ok_8 := And.left hok
        have hok := And.right hok
        refine la_I C hM 0 rfl ok_8 dL_weight_195 ?_
        refine lv_iload hx hb dL_weight_196 (lv_at hl 2 rfl) ?_
        refine lv_icmp_ne (tgt := 237) hx hb dL_weight_198 (by decide) (fun c_9 => ?_) (fun c_9 => ?_)
        · have hok := oif_neg hok c_9
          refine W.widen (k := (k_165 + 0)) (n := (j_165 + 0)) (by omega) (by omega) ?_
          exact J_l165_237 w6_165 w8_165 hok _ _ ls hM (lv_sub hl [0, 1, 2, 3, 4, 5] rfl)
        · have hok := oif_pos hok c_9
          refine lv_aload_n hx hb dL_weight_201 rfl (lv_at hl 0 rfl) ?_
          refine lv_bipush (v := 13) hx hb dL_weight_202 (by decide) ?_
          refine lv_iconst (v := 4) hx hb dL_weight_204 (by decide) ?_
          refine lv_iload hx hb dL_weight_205 (lv_at hl 5 rfl) ?_
          refine lv_imul hx hb dL_weight_207 ?_
          refine lv_iadd hx hb dL_weight_208 ?_
          have ok_10 := And.left hok
          have hok := And.right hok
          refine la_I C hM 0 rfl ok_10 dL_weight_209 ?_
          refine lv_iload hx hb dL_weight_210 (lv_at hl 3 rfl) ?_
          refine lv_icmp_ne (tgt := 237) hx hb dL_weight_212 (by decide) (fun c_11 => ?_) (fun c_11 => ?_)
          · have hok := oif_neg hok c_11
            refine W.widen (k := (k_165 + 0)) (n := (j_165 + 0)) (by omega) (by omega) ?_
            exact J_l165_237 w6_165 w8_165 hok _ _ ls hM (lv_sub hl [0, 1, 2, 3, 4, 5] rfl)
          · have hok := oif_pos hok c_11
            refine lv_lload hx hb dL_weight_215 (lv_at hl 4 rfl) ?_
            refine lv_bipush (v := 100) hx hb dL_weight_217 (by decide) ?_
            refine lv_aload_n hx hb dL_weight_219 rfl (lv_at hl 0 rfl) ?_
            refine lv_bipush (v := 14) hx hb dL_weight_220 (by decide) ?_
            refine lv_iconst (v := 4) hx hb dL_weight_222 (by decide) ?_
            refine lv_iload hx hb dL_weight_223 (lv_at hl 5 rfl) ?_
            refine lv_imul hx hb dL_weight_225 ?_
            refine lv_iadd hx hb dL_weight_226 ?_
            have ok_12 := And.left hok
            have hok := And.right hok
            refine la_I C hM 0 rfl ok_12 dL_weight_227 ?_
            refine lv_isub hx hb dL_weight_228 ?_
            refine lv_i2l (v := ((100 - (mi μ 2 (ix (14 + (4 * w8_165))))).toInt64)) hx hb dL_weight_229 rfl ?_
            refine lv_lmul hx hb dL_weight_230 ?_
            refine lv_ldc2 (v := 100) hx hb hown (hts _ q_846) dL_weight_231 ?_
            refine lv_ldiv hx hb dL_weight_234 (by decide) ?_
            refine lv_lstore (lv' := [(6, .long ((w6_165 * ((100 - (mi μ 2 (ix (14 + (4 * w8_165))))).toInt64)) / 100)), (0, .ref q2), (3, .int p3), (4, .int p4), (5, .int p5), (8, .int w8_165)]) hx hb dL_weight_235 hl (by decide) rfl (fun ls hl => ?_)
            refine W.widen (k := (k_165 + 0)) (n := (j_165 + 0)) (by omega) (by omega) ?_
            exact J_l165_237 ((w6_165 * ((100 - (mi μ 2 (ix (14 + (4 * w8_165))))).toInt64)) / 100) w8_165 hok _ _ ls hM (lv_sub hl [1, 2, 3, 4, 0, 5] rfl)
  have J_m154 : ∀  (v6_154 : Int64), w_L_weight_m154 μ p2 p3 p4 p5 K v6_154 → ∀ (H : Heap) (locs : List Loc) (ls : Array Slot), HL D a 0 0 A [(q2, .inl (a 0, 64, .inl (μ.1 2))), (q4, .inl (a 1, 16, .inr (.inl (μ.2 4))))] none s.heap H locs → lv_has ls 15 [(0, .ref q2), (3, .int p3), (4, .int p4), (5, .int p5), (6, .long v6_154)] → W p l e R s m args below meth c H locs 0 0 Q (F0 m 154 ls []) := by
    intro v6_154 hok H locs ls hM hl
    refine lv_lload hx hb dL_weight_154 (lv_at hl 4 rfl) ?_
    refine lv_ldc2 (v := 1000000) hx hb hown (hts _ q_865) dL_weight_156 ?_
    refine lv_lmul hx hb dL_weight_159 ?_
    refine lv_lstore (lv' := [(6, .long (v6_154 * 1000000)), (0, .ref q2), (3, .int p3), (4, .int p4), (5, .int p5)]) hx hb dL_weight_160 hl (by decide) rfl (fun ls hl => ?_)
    refine lv_iconst (v := 0) hx hb dL_weight_162 (by decide) ?_
    refine lv_istore (lv' := [(8, .int 0), (6, .long (v6_154 * 1000000)), (0, .ref q2), (3, .int p3), (4, .int p4), (5, .int p5)]) hx hb dL_weight_163 hl (by decide) rfl (fun ls hl => ?_)
    refine W.widen (k := 0) (n := 0) (by omega) (by omega) ?_
    exact J_m165 (v6_154 * 1000000) 0 hok _ _ ls hM (lv_sub hl [2, 3, 4, 5, 1, 0] rfl)
  have J_m6 : ∀  (v6_6 : Int64) (v8_6 : Int32), w_L_weight_m6 μ p2 p3 p4 p5 K v6_6 v8_6 → ∀ (H : Heap) (locs : List Loc) (ls : Array Slot), HL D a 0 0 A [(q2, .inl (a 0, 64, .inl (μ.1 2))), (q4, .inl (a 1, 16, .inr (.inl (μ.2 4))))] none s.heap H locs → lv_has ls 15 [(0, .ref q2), (1, .ref q4), (2, .int p2), (3, .int p3), (4, .int p4), (5, .int p5), (6, .long v6_6), (8, .int v8_6)] → W p l e R s m args below meth c H locs 0 0 Q (F0 m 6 ls []) := by
    intro v6_6 v8_6 hok H locs ls hM hl
    obtain ⟨I9_13, i9_14, n9_15, s9_16⟩ := hok
    refine inv_W (I := I9_13) (fun (n : Nat) (v : Int64 × Int32) => ∀ (k j : Nat) (H : Heap) (locs : List Loc) (ls : Array Slot), k + bud n 0 ≤ 0 → j + bud n 0 ≤ 0 → HL D a 0 0 A [(q2, .inl (a 0, 64, .inl (μ.1 2))), (q4, .inl (a 1, 16, .inr (.inl (μ.2 4))))] none s.heap H locs → lv_has ls 15 [(0, .ref q2), (1, .ref q4), (2, .int p2), (3, .int p3), (4, .int p4), (5, .int p5), (6, .long v.1), (8, .int v.2)] → W p l e R s m args below meth c H locs k j Q (F0 m 6 ls [])) n9_15 (fun n_6 v hI9 kc9 => ?_) 6 (v6_6, v8_6) i9_14 _ _ _ _ ls (bud_e (t := 0) (by omega) rfl) (bud_e (t := 0) (by omega) rfl) hM (lv_sub hl [0, 1, 2, 3, 4, 5, 6, 7] rfl)
    obtain ⟨w6_6, w8_6⟩ := v
    have hok : b_L_weight_6 μ p2 p3 p4 p5 K w6_6 w8_6 (I9_13 n_6) (fun (v : Int64 × Int32) => (w_L_weight_m154 μ p2 p3 p4 p5 K v.1)) := s9_16 n_6 (w6_6, w8_6) hI9
    intro k_6 j_6 H locs ls hk_6 hj_6 hM hl
    replace hk_6 := bud_s hk_6
    replace hj_6 := bud_s hj_6
    have J_l6_148 : ∀  (v6_148 : Int64) (v8_148 : Int32), w_L_weight_l6_148 μ p2 p3 p4 p5 K w6_6 w8_6 (I9_13 n_6) (fun (v : Int64 × Int32) => (w_L_weight_m154 μ p2 p3 p4 p5 K v.1)) v6_148 v8_148 → ∀ (H : Heap) (locs : List Loc) (ls : Array Slot), HL D a 0 0 A [(q2, .inl (a 0, 64, .inl (μ.1 2))), (q4, .inl (a 1, 16, .inr (.inl (μ.2 4))))] none s.heap H locs → lv_has ls 15 [(0, .ref q2), (1, .ref q4), (2, .int p2), (3, .int p3), (4, .int p4), (5, .int p5), (6, .long v6_148), (8, .int v8_148)] → W p l e R s m args below meth c H locs (k_6 + 0) (j_6 + 0) Q (F0 m 148 ls []) := by
      intro v6_148 v8_148 hok H locs ls hM hl
      refine lv_iinc (v := (v8_148 + 1)) (lv' := [(8, .int (v8_148 + 1)), (0, .ref q2), (1, .ref q4), (2, .int p2), (3, .int p3), (4, .int p4), (5, .int p5), (6, .long v6_148)]) hx hb dL_weight_148 hl (k := 7) rfl rfl (by decide) rfl (fun ls hl => ?_)
      refine lv_goto (tgt := 6) hx hb dL_weight_151 (by decide) ?_
      exact kc9 (v6_148, (v8_148 + 1)) hok _ _ _ _ _ (by omega) (by omega) hM (lv_sub hl [1, 2, 3, 4, 5, 6, 7, 0] rfl)
    have J_l6_126 : ∀  (v6_126 : Int64) (v8_126 : Int32) (t0_126 : Int64), w_L_weight_l6_126 μ p2 p3 p4 p5 K w6_6 w8_6 (I9_13 n_6) (fun (v : Int64 × Int32) => (w_L_weight_m154 μ p2 p3 p4 p5 K v.1)) v6_126 v8_126 t0_126 → ∀ (H : Heap) (locs : List Loc) (ls : Array Slot), HL D a 0 0 A [(q2, .inl (a 0, 64, .inl (μ.1 2))), (q4, .inl (a 1, 16, .inr (.inl (μ.2 4))))] none s.heap H locs → lv_has ls 15 [(0, .ref q2), (1, .ref q4), (2, .int p2), (3, .int p3), (4, .int p4), (5, .int p5), (6, .long v6_126), (8, .int v8_126)] → W p l e R s m args below meth c H locs (k_6 + 0) (j_6 + 0) Q (F0 m 126 ls [.long t0_126]) := by
      intro v6_126 v8_126 t0_126 hok H locs ls hM hl
      refine lv_lstore (lv' := [(13, .long t0_126), (0, .ref q2), (1, .ref q4), (2, .int p2), (3, .int p3), (4, .int p4), (5, .int p5), (6, .long v6_126), (8, .int v8_126)]) hx hb dL_weight_126 hl (by decide) rfl (fun ls hl => ?_)
      refine lv_lload hx hb dL_weight_128 (lv_at hl 0 rfl) ?_
      refine lv_ldc2 (v := 8) hx hb hown (hts _ q_864) dL_weight_130 ?_
      refine W.lcmp hx hb dL_weight_133 ?_
      refine lv_if_ge (tgt := 148) hx hb dL_weight_134 (by decide) (fun c_23 => ?_) (fun c_23 => ?_)
      · have hok := oif_pos hok c_23
        refine W.widen (k := (k_6 + 0)) (n := (j_6 + 0)) (by omega) (by omega) ?_
        exact J_l6_148 v6_126 v8_126 hok _ _ ls hM (lv_sub hl [1, 2, 3, 4, 5, 6, 7, 8] rfl)
      · have hok := oif_neg hok c_23
        refine lv_lload hx hb dL_weight_137 (lv_at hl 7 rfl) ?_
        refine lv_ldc2 (v := 8) hx hb hown (hts _ q_864) dL_weight_139 ?_
        refine lv_lload hx hb dL_weight_142 (lv_at hl 0 rfl) ?_
        refine lv_lsub hx hb dL_weight_144 ?_
        refine lv_ladd hx hb dL_weight_145 ?_
        refine lv_lstore (lv' := [(6, .long (v6_126 + (8 - t0_126))), (13, .long t0_126), (0, .ref q2), (1, .ref q4), (2, .int p2), (3, .int p3), (4, .int p4), (5, .int p5), (8, .int v8_126)]) hx hb dL_weight_146 hl (by decide) rfl (fun ls hl => ?_)
        refine W.widen (k := (k_6 + 0)) (n := (j_6 + 0)) (by omega) (by omega) ?_
        exact J_l6_148 (v6_126 + (8 - t0_126)) v8_126 hok _ _ ls hM (lv_sub hl [2, 3, 4, 5, 6, 7, 0, 8] rfl)
    have J_l6_109 : ∀  (v6_109 : Int64) (v8_109 : Int32) (v9_109 : Int64) (t0_109 : Int64), w_L_weight_l6_109 μ p2 p3 p4 p5 K w6_6 w8_6 (I9_13 n_6) (fun (v : Int64 × Int32) => (w_L_weight_m154 μ p2 p3 p4 p5 K v.1)) v6_109 v8_109 v9_109 t0_109 → ∀ (H : Heap) (locs : List Loc) (ls : Array Slot), HL D a 0 0 A [(q2, .inl (a 0, 64, .inl (μ.1 2))), (q4, .inl (a 1, 16, .inr (.inl (μ.2 4))))] none s.heap H locs → lv_has ls 15 [(0, .ref q2), (1, .ref q4), (2, .int p2), (3, .int p3), (4, .int p4), (5, .int p5), (6, .long v6_109), (8, .int v8_109), (9, .long v9_109)] → W p l e R s m args below meth c H locs (k_6 + 0) (j_6 + 0) Q (F0 m 109 ls [.long t0_109]) := by
      intro v6_109 v8_109 v9_109 t0_109 hok H locs ls hM hl
      refine lv_lstore (lv' := [(11, .long t0_109), (0, .ref q2), (1, .ref q4), (2, .int p2), (3, .int p3), (4, .int p4), (5, .int p5), (6, .long v6_109), (8, .int v8_109), (9, .long v9_109)]) hx hb dL_weight_109 hl (by decide) rfl (fun ls hl => ?_)
      refine lv_lload hx hb dL_weight_111 (lv_at hl 9 rfl) ?_
      refine lv_lload hx hb dL_weight_113 (lv_at hl 0 rfl) ?_
      refine W.lcmp hx hb dL_weight_115 ?_
      refine lv_if_le (tgt := 124) hx hb dL_weight_116 (by decide) (fun c_22 => ?_) (fun c_22 => ?_)
      · have hok := oif_pos hok c_22
        refine lv_lload hx hb dL_weight_124 (lv_at hl 0 rfl) ?_
        refine W.widen (k := (k_6 + 0)) (n := (j_6 + 0)) (by omega) (by omega) ?_
        exact J_l6_126 v6_109 v8_109 t0_109 hok _ _ ls hM (lv_sub hl [1, 2, 3, 4, 5, 6, 7, 8] rfl)
      · have hok := oif_neg hok c_22
        refine lv_lload hx hb dL_weight_119 (lv_at hl 9 rfl) ?_
        refine lv_goto (tgt := 126) hx hb dL_weight_121 (by decide) ?_
        refine W.widen (k := (k_6 + 0)) (n := (j_6 + 0)) (by omega) (by omega) ?_
        exact J_l6_126 v6_109 v8_109 v9_109 hok _ _ ls hM (lv_sub hl [1, 2, 3, 4, 5, 6, 7, 8] rfl)
    have J_l6_92 : ∀  (v6_92 : Int64) (v8_92 : Int32) (v11_92 : Int64) (t0_92 : Int64), w_L_weight_l6_92 μ p2 p3 p4 p5 K w6_6 w8_6 (I9_13 n_6) (fun (v : Int64 × Int32) => (w_L_weight_m154 μ p2 p3 p4 p5 K v.1)) v6_92 v8_92 v11_92 t0_92 → ∀ (H : Heap) (locs : List Loc) (ls : Array Slot), HL D a 0 0 A [(q2, .inl (a 0, 64, .inl (μ.1 2))), (q4, .inl (a 1, 16, .inr (.inl (μ.2 4))))] none s.heap H locs → lv_has ls 15 [(0, .ref q2), (1, .ref q4), (2, .int p2), (3, .int p3), (4, .int p4), (5, .int p5), (6, .long v6_92), (8, .int v8_92), (11, .long v11_92)] → W p l e R s m args below meth c H locs (k_6 + 0) (j_6 + 0) Q (F0 m 92 ls [.long t0_92]) := by
      intro v6_92 v8_92 v11_92 t0_92 hok H locs ls hM hl
      refine lv_lstore (lv' := [(9, .long t0_92), (0, .ref q2), (1, .ref q4), (2, .int p2), (3, .int p3), (4, .int p4), (5, .int p5), (6, .long v6_92), (8, .int v8_92), (11, .long v11_92)]) hx hb dL_weight_92 hl (by decide) rfl (fun ls hl => ?_)
      refine lv_lload hx hb dL_weight_94 (lv_at hl 9 rfl) ?_
      refine lv_lconst (v := 0) hx hb dL_weight_96 (by decide) ?_
      refine W.lcmp hx hb dL_weight_97 ?_
      refine lv_if_ge (tgt := 107) hx hb dL_weight_98 (by decide) (fun c_21 => ?_) (fun c_21 => ?_)
      · have hok := oif_pos hok c_21
        refine lv_lload hx hb dL_weight_107 (lv_at hl 9 rfl) ?_
        refine W.widen (k := (k_6 + 0)) (n := (j_6 + 0)) (by omega) (by omega) ?_
        exact J_l6_109 v6_92 v8_92 t0_92 v11_92 hok _ _ ls hM (lv_sub hl [1, 2, 3, 4, 5, 6, 7, 8, 0] rfl)
      · have hok := oif_neg hok c_21
        refine lv_lload hx hb dL_weight_101 (lv_at hl 9 rfl) ?_
        refine lv_lneg hx hb dL_weight_103 ?_
        refine lv_goto (tgt := 109) hx hb dL_weight_104 (by decide) ?_
        refine W.widen (k := (k_6 + 0)) (n := (j_6 + 0)) (by omega) (by omega) ?_
        exact J_l6_109 v6_92 v8_92 t0_92 (-v11_92) hok _ _ ls hM (lv_sub hl [1, 2, 3, 4, 5, 6, 7, 8, 0] rfl)
    have J_l6_77 : ∀  (v6_77 : Int64) (v8_77 : Int32) (v9_77 : Int64) (v11_77 : Int64), w_L_weight_l6_77 μ p2 p3 p4 p5 K w6_6 w8_6 (I9_13 n_6) (fun (v : Int64 × Int32) => (w_L_weight_m154 μ p2 p3 p4 p5 K v.1)) v6_77 v8_77 v9_77 v11_77 → ∀ (H : Heap) (locs : List Loc) (ls : Array Slot), HL D a 0 0 A [(q2, .inl (a 0, 64, .inl (μ.1 2))), (q4, .inl (a 1, 16, .inr (.inl (μ.2 4))))] none s.heap H locs → lv_has ls 15 [(0, .ref q2), (1, .ref q4), (2, .int p2), (3, .int p3), (4, .int p4), (5, .int p5), (6, .long v6_77), (8, .int v8_77), (9, .long v9_77), (11, .long v11_77)] → W p l e R s m args below meth c H locs (k_6 + 0) (j_6 + 0) Q (F0 m 77 ls []) := by
      intro v6_77 v8_77 v9_77 v11_77 hok H locs ls hM hl
      refine lv_lload hx hb dL_weight_77 (lv_at hl 8 rfl) ?_
      refine lv_lconst (v := 0) hx hb dL_weight_79 (by decide) ?_
      refine W.lcmp hx hb dL_weight_80 ?_
      refine lv_if_ge (tgt := 90) hx hb dL_weight_81 (by decide) (fun c_20 => ?_) (fun c_20 => ?_)
      · have hok := oif_pos hok c_20
        refine lv_lload hx hb dL_weight_90 (lv_at hl 8 rfl) ?_
        refine W.widen (k := (k_6 + 0)) (n := (j_6 + 0)) (by omega) (by omega) ?_
        exact J_l6_92 v6_77 v8_77 v11_77 v9_77 hok _ _ ls hM (lv_sub hl [0, 1, 2, 3, 4, 5, 6, 7, 9] rfl)
      · have hok := oif_neg hok c_20
        refine lv_lload hx hb dL_weight_84 (lv_at hl 8 rfl) ?_
        refine lv_lneg hx hb dL_weight_86 ?_
        refine lv_goto (tgt := 92) hx hb dL_weight_87 (by decide) ?_
        refine W.widen (k := (k_6 + 0)) (n := (j_6 + 0)) (by omega) (by omega) ?_
        exact J_l6_92 v6_77 v8_77 v11_77 (-v9_77) hok _ _ ls hM (lv_sub hl [0, 1, 2, 3, 4, 5, 6, 7, 9] rfl)
    have J_l6_44 : ∀  (v6_44 : Int64) (v8_44 : Int32) (v9_44 : Int64), w_L_weight_l6_44 μ p2 p3 p4 p5 K w6_6 w8_6 (I9_13 n_6) (fun (v : Int64 × Int32) => (w_L_weight_m154 μ p2 p3 p4 p5 K v.1)) v6_44 v8_44 v9_44 → ∀ (H : Heap) (locs : List Loc) (ls : Array Slot), HL D a 0 0 A [(q2, .inl (a 0, 64, .inl (μ.1 2))), (q4, .inl (a 1, 16, .inr (.inl (μ.2 4))))] none s.heap H locs → lv_has ls 15 [(0, .ref q2), (1, .ref q4), (2, .int p2), (3, .int p3), (4, .int p4), (5, .int p5), (6, .long v6_44), (8, .int v8_44), (9, .long v9_44)] → W p l e R s m args below meth c H locs (k_6 + 0) (j_6 + 0) Q (F0 m 44 ls []) := by
      intro v6_44 v8_44 v9_44 hok H locs ls hM hl
      refine lv_aload_n hx hb dL_weight_44 rfl (lv_at hl 1 rfl) ?_
      refine lv_iconst (v := 4) hx hb dL_weight_45 (by decide) ?_
      refine la_J C hM 1 rfl (lit_in (by decide) (by decide)) dL_weight_46 ?_
      refine lv_aload_n hx hb dL_weight_47 rfl (lv_at hl 0 rfl) ?_
      refine lv_iconst (v := 2) hx hb dL_weight_48 (by decide) ?_
      refine lv_iload_n hx hb dL_weight_49 rfl (lv_at hl 2 rfl) ?_
      refine lv_imul hx hb dL_weight_50 ?_
      refine lv_iconst (v := 1) hx hb dL_weight_51 (by decide) ?_
      refine lv_iadd hx hb dL_weight_52 ?_
      have ok_19 := And.left hok
      have hok := And.right hok
      refine la_I C hM 0 rfl ok_19 dL_weight_53 ?_
      refine lv_bipush (v := 20) hx hb dL_weight_54 (by decide) ?_
      refine lv_imul hx hb dL_weight_56 ?_
      refine lv_bipush (v := 6) hx hb dL_weight_57 (by decide) ?_
      refine lv_iload hx hb dL_weight_59 (lv_at hl 7 rfl) ?_
      refine lv_isub hx hb dL_weight_61 ?_
      refine lv_imul hx hb dL_weight_62 ?_
      refine lv_i2l (v := ((((mi μ 2 (ix ((2 * p2) + 1))) * 20) * (6 - v8_44)).toInt64)) hx hb dL_weight_63 rfl ?_
      refine lv_ladd hx hb dL_weight_64 ?_
      refine lv_ldc2 (v := 100) hx hb hown (hts _ q_846) dL_weight_65 ?_
      refine lc_S (av := [.long ((ml μ 4 (ix 4)) + ((((mi μ 2 (ix ((2 * p2) + 1))) * 20) * (6 - v8_44)).toInt64)), .long 100]) C (k_L_down l D a ((ml μ 4 (ix 4)) + ((((mi μ 2 (ix ((2 * p2) + 1))) * 20) * (6 - v8_44)).toInt64)) 100 (by decide)) cw_L_12 (okR_of hRf hRl (Nat.le_of_ble_eq_true rfl) (Nat.le_of_ble_eq_true rfl)) rfl rfl hl.1 (Nat.le_of_ble_eq_true rfl) (by omega) (by omega) dL_weight_68 ?_
      refine lv_iload hx hb dL_weight_71 (lv_at hl 5 rfl) ?_
      refine lv_i2l (v := p5.toInt64) hx hb dL_weight_73 rfl ?_
      refine lv_lsub hx hb dL_weight_74 ?_
      refine lv_lstore (lv' := [(11, .long ((f_L_down ((ml μ 4 (ix 4)) + ((((mi μ 2 (ix ((2 * p2) + 1))) * 20) * (6 - v8_44)).toInt64)) 100) - p5.toInt64)), (0, .ref q2), (1, .ref q4), (2, .int p2), (3, .int p3), (4, .int p4), (5, .int p5), (6, .long v6_44), (8, .int v8_44), (9, .long v9_44)]) hx hb dL_weight_75 hl (by decide) rfl (fun ls hl => ?_)
      refine W.widen (k := (k_6 + 0)) (n := (j_6 + 0)) (by omega) (by omega) ?_
      exact J_l6_77 v6_44 v8_44 v9_44 ((f_L_down ((ml μ 4 (ix 4)) + ((((mi μ 2 (ix ((2 * p2) + 1))) * 20) * (6 - v8_44)).toInt64)) 100) - p5.toInt64) hok _ _ ls hM (lv_sub hl [1, 2, 3, 4, 5, 6, 7, 8, 9, 0] rfl)
    refine lv_iload hx hb dL_weight_6 (lv_at hl 7 rfl) ?_
    refine lv_bipush (v := 6) hx hb dL_weight_8 (by decide) ?_
    refine lv_icmp_ge (tgt := 154) hx hb dL_weight_10 (by decide) (fun c_17 => ?_) (fun c_17 => ?_)
    · have hok := oif_pos hok c_17
      refine W.widen (k := 0) (n := 0) (by omega) (by omega) ?_
      exact J_m154 w6_6 hok _ _ ls hM (lv_sub hl [0, 3, 4, 5, 6] rfl)
    · have hok := oif_neg hok c_17
      refine lv_aload_n hx hb dL_weight_13 rfl (lv_at hl 1 rfl) ?_
      refine lv_iconst (v := 3) hx hb dL_weight_14 (by decide) ?_
      refine la_J C hM 1 rfl (lit_in (by decide) (by decide)) dL_weight_15 ?_
      refine lv_aload_n hx hb dL_weight_16 rfl (lv_at hl 0 rfl) ?_
      refine lv_iconst (v := 2) hx hb dL_weight_17 (by decide) ?_
      refine lv_iload_n hx hb dL_weight_18 rfl (lv_at hl 2 rfl) ?_
      refine lv_imul hx hb dL_weight_19 ?_
      have ok_18 := And.left hok
      have hok := And.right hok
      refine la_I C hM 0 rfl ok_18 dL_weight_20 ?_
      refine lv_bipush (v := 20) hx hb dL_weight_21 (by decide) ?_
      refine lv_imul hx hb dL_weight_23 ?_
      refine lv_bipush (v := 6) hx hb dL_weight_24 (by decide) ?_
      refine lv_iload hx hb dL_weight_26 (lv_at hl 7 rfl) ?_
      refine lv_isub hx hb dL_weight_28 ?_
      refine lv_imul hx hb dL_weight_29 ?_
      refine lv_i2l (v := ((((mi μ 2 (ix (2 * p2))) * 20) * (6 - w8_6)).toInt64)) hx hb dL_weight_30 rfl ?_
      refine lv_ladd hx hb dL_weight_31 ?_
      refine lv_ldc2 (v := 100) hx hb hown (hts _ q_846) dL_weight_32 ?_
      refine lc_S (av := [.long ((ml μ 4 (ix 3)) + ((((mi μ 2 (ix (2 * p2))) * 20) * (6 - w8_6)).toInt64)), .long 100]) C (k_L_down l D a ((ml μ 4 (ix 3)) + ((((mi μ 2 (ix (2 * p2))) * 20) * (6 - w8_6)).toInt64)) 100 (by decide)) cw_L_12 (okR_of hRf hRl (Nat.le_of_ble_eq_true rfl) (Nat.le_of_ble_eq_true rfl)) rfl rfl hl.1 (Nat.le_of_ble_eq_true rfl) (by omega) (by omega) dL_weight_35 ?_
      refine lv_iload hx hb dL_weight_38 (lv_at hl 4 rfl) ?_
      refine lv_i2l (v := p4.toInt64) hx hb dL_weight_40 rfl ?_
      refine lv_lsub hx hb dL_weight_41 ?_
      refine lv_lstore (lv' := [(9, .long ((f_L_down ((ml μ 4 (ix 3)) + ((((mi μ 2 (ix (2 * p2))) * 20) * (6 - w8_6)).toInt64)) 100) - p4.toInt64)), (0, .ref q2), (1, .ref q4), (2, .int p2), (3, .int p3), (4, .int p4), (5, .int p5), (6, .long w6_6), (8, .int w8_6)]) hx hb dL_weight_42 hl (by decide) rfl (fun ls hl => ?_)
      refine W.widen (k := (k_6 + 0)) (n := (j_6 + 0)) (by omega) (by omega) ?_
      exact J_l6_44 w6_6 w8_6 ((f_L_down ((ml μ 4 (ix 3)) + ((((mi μ 2 (ix (2 * p2))) * 20) * (6 - w8_6)).toInt64)) 100) - p4.toInt64) hok _ _ ls hM (lv_sub hl [1, 2, 3, 4, 5, 6, 7, 8, 0] rfl)
  refine lv_lconst (v := 0) hx hb dL_weight_0 (by decide) ?_
  refine lv_lstore (lv' := [(6, .long 0), (0, .ref q2), (1, .ref q4), (2, .int p2), (3, .int p3), (4, .int p4), (5, .int p5)]) hx hb dL_weight_1 hl (by decide) rfl (fun ls hl => ?_)
  refine lv_iconst (v := 1) hx hb dL_weight_3 (by decide) ?_
  refine lv_istore (lv' := [(8, .int 1), (6, .long 0), (0, .ref q2), (1, .ref q4), (2, .int p2), (3, .int p3), (4, .int p4), (5, .int p5)]) hx hb dL_weight_4 hl (by decide) rfl (fun ls hl => ?_)
  refine W.widen (k := 0) (n := 0) (by omega) (by omega) ?_
  exact J_m6 0 1 hok _ _ ls hM (lv_sub hl [2, 3, 4, 5, 6, 7, 1, 0] rfl)
def w_L_chance_m51 (μ : MS) (p2 : Int32) (p3 : Int32) (p4 : Int32) (p5 : Int32) (K : Int64 → Prop) (v6_51 : Int64) : Prop := (oif ((lg_cmp v6_51 0) = 0) (K 0) (wcal (w_L_weight μ p2 p3 p4 p5) (fun v9_6 => (¬ v6_51 = 0 ∧ (K ((v9_6 * 1000000) / v6_51))))))
def w_L_chance_l6_45 (μ : MS) (p2 : Int32) (p3 : Int32) (p4 : Int32) (p5 : Int32) (K : Int64 → Prop) (w6_6 : Int64) (w8_6 : Int32) (KC : (Int64 × Int32) → Prop) (KE : (Int64 × Int32) → Prop) (v6_45 : Int64) (v8_45 : Int32) : Prop := (KC (v6_45, (v8_45 + 1)))
def b_L_chance_16 (μ : MS) (p2 : Int32) (p3 : Int32) (p4 : Int32) (p5 : Int32) (K : Int64 → Prop) (w6_6 : Int64) (w8_6 : Int32) (v8_16 : Int32) (w6_16 : Int64) (w9_16 : Int32) (KC : (Int64 × Int32) → Prop) (KE : (Int64 × Int32) → Prop) : Prop := (oif (100 ≤ w9_16) (KE (w6_16, w9_16)) (wcal (w_L_weight μ p2 p3 v8_16 w9_16) (fun v9_22 => (KC ((w6_16 + v9_22), (w9_16 + 1))))))
def w_L_chance_l6_16 (μ : MS) (p2 : Int32) (p3 : Int32) (p4 : Int32) (p5 : Int32) (K : Int64 → Prop) (w6_6 : Int64) (w8_6 : Int32) (KC : (Int64 × Int32) → Prop) (KE : (Int64 × Int32) → Prop) (v6_16 : Int64) (v8_16 : Int32) (v9_16 : Int32) : Prop := (winv 101 (fun (v : Int64 × Int32) KC KE => b_L_chance_16 μ p2 p3 p4 p5 K w6_6 w8_6 v8_16 v.1 v.2 KC KE) (v6_16, v9_16) (fun (v : Int64 × Int32) => (w_L_chance_l6_45 μ p2 p3 p4 p5 K w6_6 w8_6 KC KE v.1 v8_16)))
def b_L_chance_6 (μ : MS) (p2 : Int32) (p3 : Int32) (p4 : Int32) (p5 : Int32) (K : Int64 → Prop) (w6_6 : Int64) (w8_6 : Int32) (KC : (Int64 × Int32) → Prop) (KE : (Int64 × Int32) → Prop) : Prop := (oif (100 ≤ w8_6) (KE (w6_6, w8_6)) (w_L_chance_l6_16 μ p2 p3 p4 p5 K w6_6 w8_6 KC KE w6_6 w8_6 0))
def w_L_chance_m6 (μ : MS) (p2 : Int32) (p3 : Int32) (p4 : Int32) (p5 : Int32) (K : Int64 → Prop) (v6_6 : Int64) (v8_6 : Int32) : Prop := (winv 101 (fun (v : Int64 × Int32) KC KE => b_L_chance_6 μ p2 p3 p4 p5 K v.1 v.2 KC KE) (v6_6, v8_6) (fun (v : Int64 × Int32) => (w_L_chance_m51 μ p2 p3 p4 p5 K v.1)))
def w_L_chance (μ : MS) (p2 : Int32) (p3 : Int32) (p4 : Int32) (p5 : Int32) (K : Int64 → Prop) : Prop := (w_L_chance_m6 μ p2 p3 p4 p5 K 0 0)
set_option maxHeartbeats 4000000 in
set_option maxRecDepth 100000 in
theorem k_L_chance (l : Launch) (D : va_G) (a : Nat → ClassId) (A : Nat → Prop) (q2 : Nat) (q4 : Nat) (μ : MS) (p2 : Int32) (p3 : Int32) (p4 : Int32) (p5 : Int32) (K : Int64 → Prop)  (hok : w_L_chance μ p2 p3 p4 p5 K) : KG l yL_chance cL_chance 10 (some .long) 2 59 0 0 [.ref q2, .ref q4, .int p2, .int p3, .int p4, .int p5] A (BLa D a A [(q2, .inl (a 0, 64, .inl (μ.1 2))), (q4, .inl (a 1, 16, .inr (.inl (μ.2 4))))]) (fun _ v _ => ∃ v9, K v9 ∧ v = some (.long v9)) := by
  refine goLl (D := D) (a := a) (by decide +kernel) bla_good (Nat.le_of_ble_eq_true rfl) ?_
  intro p e s m args below meth c ls R Q hRf hRl hRc hRs C hB hl ret
  obtain ⟨-, hAf, hP, hD⟩ := hB
  have hM : HL D a 0 0 A [(q2, .inl (a 0, 64, .inl (μ.1 2))), (q4, .inl (a 1, 16, .inr (.inl (μ.2 4))))] none s.heap s.heap [] := ⟨hP, hD, va_S.rf, trivial⟩
  have hl : lv_has ls 10 [(0, .ref q2), (1, .ref q4), (2, .int p2), (3, .int p3), (4, .int p4), (5, .int p5)] := hl
  have hx := C.1.1
  have hb := C.1.2.1
  have hts := C.1.2.2.2.2
  have hown := C.1.2.2.2.1
  have J_m51 : ∀  (v6_51 : Int64), w_L_chance_m51 μ p2 p3 p4 p5 K v6_51 → ∀ (H : Heap) (locs : List Loc) (ls : Array Slot), HL D a 0 0 A [(q2, .inl (a 0, 64, .inl (μ.1 2))), (q4, .inl (a 1, 16, .inr (.inl (μ.2 4))))] none s.heap H locs → lv_has ls 10 [(0, .ref q2), (1, .ref q4), (2, .int p2), (3, .int p3), (4, .int p4), (5, .int p5), (6, .long v6_51)] → W p l e R s m args below meth c H locs 0 0 Q (F0 m 51 ls []) := by
    intro v6_51 hok H locs ls hM hl
    refine lv_lload hx hb dL_chance_51 (lv_at hl 6 rfl) ?_
    refine lv_lconst (v := 0) hx hb dL_chance_53 (by decide) ?_
    refine W.lcmp hx hb dL_chance_54 ?_
    refine lv_if_ne (tgt := 62) hx hb dL_chance_55 (by decide) (fun c_1 => ?_) (fun c_1 => ?_)
    · have hok := oif_neg hok c_1
      refine lv_aload_n hx hb dL_chance_62 rfl (lv_at hl 0 rfl) ?_
      refine lv_aload_n hx hb dL_chance_63 rfl (lv_at hl 1 rfl) ?_
      refine lv_iload_n hx hb dL_chance_64 rfl (lv_at hl 2 rfl) ?_
      refine lv_iload_n hx hb dL_chance_65 rfl (lv_at hl 3 rfl) ?_
      refine lv_iload hx hb dL_chance_66 (lv_at hl 4 rfl) ?_
      refine lv_iload hx hb dL_chance_68 (lv_at hl 5 rfl) ?_
      obtain ⟨S9_2, w9_3, g9_4⟩ := hok
      refine lc_0 (av := [.ref q2, .ref q4, .int p2, .int p3, .int p4, .int p5]) C hM hAf [0, 1] rfl rfl (fun A9 => k_L_weight l D a A9 q2 q4 μ p2 p3 p4 p5 S9_2 w9_3) cw_L_42 (okR_of hRf hRl (Nat.le_of_ble_eq_true rfl) (Nat.le_of_ble_eq_true rfl)) rfl rfl hl.1 (Nat.le_of_ble_eq_true rfl) (by omega) (by omega) dL_chance_70 (fun H locs v9 hM hP9 => ?_)
      obtain ⟨v9_6, hS_5, rfl⟩ := hP9
      have hM : HL D a 0 0 A [(q2, .inl (a 0, 64, .inl (μ.1 2))), (q4, .inl (a 1, 16, .inr (.inl (μ.2 4))))] none s.heap H locs := hM
      have hok := g9_4 v9_6 hS_5
      refine lv_ldc2 (v := 1000000) hx hb hown (hts _ q_865) dL_chance_73 ?_
      refine lv_lmul hx hb dL_chance_76 ?_
      refine lv_lload hx hb dL_chance_77 (lv_at hl 6 rfl) ?_
      have ok_7 := And.left hok
      have hok := And.right hok
      refine lv_ldiv hx hb dL_chance_79 ok_7 ?_
      refine W.widen (k := 0) (n := 0) (by omega) (by omega) ?_
      exact ret _ _ _ _ _ hM.2.2.1 dL_chance_80 ⟨_, hok, rfl⟩
    · have hok := oif_pos hok c_1
      refine lv_lconst (v := 0) hx hb dL_chance_58 (by decide) ?_
      refine lv_goto (tgt := 80) hx hb dL_chance_59 (by decide) ?_
      refine W.widen (k := 0) (n := 0) (by omega) (by omega) ?_
      exact ret _ _ _ _ _ hM.2.2.1 dL_chance_80 ⟨_, hok, rfl⟩
  have J_m6 : ∀  (v6_6 : Int64) (v8_6 : Int32), w_L_chance_m6 μ p2 p3 p4 p5 K v6_6 v8_6 → ∀ (H : Heap) (locs : List Loc) (ls : Array Slot), HL D a 0 0 A [(q2, .inl (a 0, 64, .inl (μ.1 2))), (q4, .inl (a 1, 16, .inr (.inl (μ.2 4))))] none s.heap H locs → lv_has ls 10 [(0, .ref q2), (1, .ref q4), (2, .int p2), (3, .int p3), (4, .int p4), (5, .int p5), (6, .long v6_6), (8, .int v8_6)] → W p l e R s m args below meth c H locs 0 0 Q (F0 m 6 ls []) := by
    intro v6_6 v8_6 hok H locs ls hM hl
    obtain ⟨I9_8, i9_9, n9_10, s9_11⟩ := hok
    refine inv_W (I := I9_8) (fun (n : Nat) (v : Int64 × Int32) => ∀ (k j : Nat) (H : Heap) (locs : List Loc) (ls : Array Slot), k + bud n 0 ≤ 0 → j + bud n 0 ≤ 0 → HL D a 0 0 A [(q2, .inl (a 0, 64, .inl (μ.1 2))), (q4, .inl (a 1, 16, .inr (.inl (μ.2 4))))] none s.heap H locs → lv_has ls 10 [(0, .ref q2), (1, .ref q4), (2, .int p2), (3, .int p3), (4, .int p4), (5, .int p5), (6, .long v.1), (8, .int v.2)] → W p l e R s m args below meth c H locs k j Q (F0 m 6 ls [])) n9_10 (fun n_6 v hI9 kc9 => ?_) 101 (v6_6, v8_6) i9_9 _ _ _ _ ls (bud_e (t := 0) (by omega) rfl) (bud_e (t := 0) (by omega) rfl) hM (lv_sub hl [0, 1, 2, 3, 4, 5, 6, 7] rfl)
    obtain ⟨w6_6, w8_6⟩ := v
    have hok : b_L_chance_6 μ p2 p3 p4 p5 K w6_6 w8_6 (I9_8 n_6) (fun (v : Int64 × Int32) => (w_L_chance_m51 μ p2 p3 p4 p5 K v.1)) := s9_11 n_6 (w6_6, w8_6) hI9
    intro k_6 j_6 H locs ls hk_6 hj_6 hM hl
    replace hk_6 := bud_s hk_6
    replace hj_6 := bud_s hj_6
    have J_l6_45 : ∀  (v6_45 : Int64) (v8_45 : Int32), w_L_chance_l6_45 μ p2 p3 p4 p5 K w6_6 w8_6 (I9_8 n_6) (fun (v : Int64 × Int32) => (w_L_chance_m51 μ p2 p3 p4 p5 K v.1)) v6_45 v8_45 → ∀ (H : Heap) (locs : List Loc) (ls : Array Slot), HL D a 0 0 A [(q2, .inl (a 0, 64, .inl (μ.1 2))), (q4, .inl (a 1, 16, .inr (.inl (μ.2 4))))] none s.heap H locs → lv_has ls 10 [(0, .ref q2), (1, .ref q4), (2, .int p2), (3, .int p3), (4, .int p4), (5, .int p5), (6, .long v6_45), (8, .int v8_45)] → W p l e R s m args below meth c H locs (k_6 + 0) (j_6 + 0) Q (F0 m 45 ls []) := by
      intro v6_45 v8_45 hok H locs ls hM hl
      refine lv_iinc (v := (v8_45 + 1)) (lv' := [(8, .int (v8_45 + 1)), (0, .ref q2), (1, .ref q4), (2, .int p2), (3, .int p3), (4, .int p4), (5, .int p5), (6, .long v6_45)]) hx hb dL_chance_45 hl (k := 7) rfl rfl (by decide) rfl (fun ls hl => ?_)
      refine lv_goto (tgt := 6) hx hb dL_chance_48 (by decide) ?_
      exact kc9 (v6_45, (v8_45 + 1)) hok _ _ _ _ _ (by omega) (by omega) hM (lv_sub hl [1, 2, 3, 4, 5, 6, 7, 0] rfl)
    have J_l6_16 : ∀  (v6_16 : Int64) (v8_16 : Int32) (v9_16 : Int32), w_L_chance_l6_16 μ p2 p3 p4 p5 K w6_6 w8_6 (I9_8 n_6) (fun (v : Int64 × Int32) => (w_L_chance_m51 μ p2 p3 p4 p5 K v.1)) v6_16 v8_16 v9_16 → ∀ (H : Heap) (locs : List Loc) (ls : Array Slot), HL D a 0 0 A [(q2, .inl (a 0, 64, .inl (μ.1 2))), (q4, .inl (a 1, 16, .inr (.inl (μ.2 4))))] none s.heap H locs → lv_has ls 10 [(0, .ref q2), (1, .ref q4), (2, .int p2), (3, .int p3), (4, .int p4), (5, .int p5), (6, .long v6_16), (8, .int v8_16), (9, .int v9_16)] → W p l e R s m args below meth c H locs (k_6 + 0) (j_6 + 0) Q (F0 m 16 ls []) := by
      intro v6_16 v8_16 v9_16 hok H locs ls hM hl
      obtain ⟨I9_13, i9_14, n9_15, s9_16⟩ := hok
      refine inv_W (I := I9_13) (fun (n : Nat) (v : Int64 × Int32) => ∀ (k j : Nat) (H : Heap) (locs : List Loc) (ls : Array Slot), k + bud n 0 ≤ (k_6 + 0) → j + bud n 0 ≤ (j_6 + 0) → HL D a 0 0 A [(q2, .inl (a 0, 64, .inl (μ.1 2))), (q4, .inl (a 1, 16, .inr (.inl (μ.2 4))))] none s.heap H locs → lv_has ls 10 [(0, .ref q2), (1, .ref q4), (2, .int p2), (3, .int p3), (4, .int p4), (5, .int p5), (6, .long v.1), (8, .int v8_16), (9, .int v.2)] → W p l e R s m args below meth c H locs k j Q (F0 m 16 ls [])) n9_15 (fun n_16 v hI9 kc9 => ?_) 101 (v6_16, v9_16) i9_14 _ _ _ _ ls (bud_e (t := 0) (by omega) rfl) (bud_e (t := 0) (by omega) rfl) hM (lv_sub hl [0, 1, 2, 3, 4, 5, 6, 7, 8] rfl)
      obtain ⟨w6_16, w9_16⟩ := v
      have hok : b_L_chance_16 μ p2 p3 p4 p5 K w6_6 w8_6 v8_16 w6_16 w9_16 (I9_13 n_16) (fun (v : Int64 × Int32) => (w_L_chance_l6_45 μ p2 p3 p4 p5 K w6_6 w8_6 (I9_8 n_6) (fun (v : Int64 × Int32) => (w_L_chance_m51 μ p2 p3 p4 p5 K v.1)) v.1 v8_16)) := s9_16 n_16 (w6_16, w9_16) hI9
      intro k_16 j_16 H locs ls hk_16 hj_16 hM hl
      replace hk_16 := bud_s hk_16
      replace hj_16 := bud_s hj_16
      refine lv_iload hx hb dL_chance_16 (lv_at hl 8 rfl) ?_
      refine lv_bipush (v := 100) hx hb dL_chance_18 (by decide) ?_
      refine lv_icmp_ge (tgt := 45) hx hb dL_chance_20 (by decide) (fun c_17 => ?_) (fun c_17 => ?_)
      · have hok := oif_pos hok c_17
        refine W.widen (k := (k_6 + 0)) (n := (j_6 + 0)) (by omega) (by omega) ?_
        exact J_l6_45 w6_16 v8_16 hok _ _ ls hM (lv_sub hl [0, 1, 2, 3, 4, 5, 6, 7] rfl)
      · have hok := oif_neg hok c_17
        refine lv_lload hx hb dL_chance_23 (lv_at hl 6 rfl) ?_
        refine lv_aload_n hx hb dL_chance_25 rfl (lv_at hl 0 rfl) ?_
        refine lv_aload_n hx hb dL_chance_26 rfl (lv_at hl 1 rfl) ?_
        refine lv_iload_n hx hb dL_chance_27 rfl (lv_at hl 2 rfl) ?_
        refine lv_iload_n hx hb dL_chance_28 rfl (lv_at hl 3 rfl) ?_
        refine lv_iload hx hb dL_chance_29 (lv_at hl 7 rfl) ?_
        refine lv_iload hx hb dL_chance_31 (lv_at hl 8 rfl) ?_
        obtain ⟨S9_18, w9_19, g9_20⟩ := hok
        refine lc_0 (av := [.ref q2, .ref q4, .int p2, .int p3, .int v8_16, .int w9_16]) C hM hAf [0, 1] rfl rfl (fun A9 => k_L_weight l D a A9 q2 q4 μ p2 p3 v8_16 w9_16 S9_18 w9_19) cw_L_42 (okR_of hRf hRl (Nat.le_of_ble_eq_true rfl) (Nat.le_of_ble_eq_true rfl)) rfl rfl hl.1 (Nat.le_of_ble_eq_true rfl) (by omega) (by omega) dL_chance_33 (fun H locs v9 hM hP9 => ?_)
        obtain ⟨v9_22, hS_21, rfl⟩ := hP9
        have hM : HL D a 0 0 A [(q2, .inl (a 0, 64, .inl (μ.1 2))), (q4, .inl (a 1, 16, .inr (.inl (μ.2 4))))] none s.heap H locs := hM
        have hok := g9_20 v9_22 hS_21
        refine lv_ladd hx hb dL_chance_36 ?_
        refine lv_lstore (lv' := [(6, .long (w6_16 + v9_22)), (0, .ref q2), (1, .ref q4), (2, .int p2), (3, .int p3), (4, .int p4), (5, .int p5), (8, .int v8_16), (9, .int w9_16)]) hx hb dL_chance_37 hl (by decide) rfl (fun ls hl => ?_)
        refine lv_iinc (v := (w9_16 + 1)) (lv' := [(9, .int (w9_16 + 1)), (6, .long (w6_16 + v9_22)), (0, .ref q2), (1, .ref q4), (2, .int p2), (3, .int p3), (4, .int p4), (5, .int p5), (8, .int v8_16)]) hx hb dL_chance_39 hl (k := 8) rfl rfl (by decide) rfl (fun ls hl => ?_)
        refine lv_goto (tgt := 16) hx hb dL_chance_42 (by decide) ?_
        exact kc9 ((w6_16 + v9_22), (w9_16 + 1)) hok _ _ _ _ _ (by omega) (by omega) hM (lv_sub hl [2, 3, 4, 5, 6, 7, 1, 8, 0] rfl)
    refine lv_iload hx hb dL_chance_6 (lv_at hl 7 rfl) ?_
    refine lv_bipush (v := 100) hx hb dL_chance_8 (by decide) ?_
    refine lv_icmp_ge (tgt := 51) hx hb dL_chance_10 (by decide) (fun c_12 => ?_) (fun c_12 => ?_)
    · have hok := oif_pos hok c_12
      refine W.widen (k := 0) (n := 0) (by omega) (by omega) ?_
      exact J_m51 w6_6 hok _ _ ls hM (lv_sub hl [0, 1, 2, 3, 4, 5, 6] rfl)
    · have hok := oif_neg hok c_12
      refine lv_iconst (v := 0) hx hb dL_chance_13 (by decide) ?_
      refine lv_istore (lv' := [(9, .int 0), (0, .ref q2), (1, .ref q4), (2, .int p2), (3, .int p3), (4, .int p4), (5, .int p5), (6, .long w6_6), (8, .int w8_6)]) hx hb dL_chance_14 hl (by decide) rfl (fun ls hl => ?_)
      refine W.widen (k := (k_6 + 0)) (n := (j_6 + 0)) (by omega) (by omega) ?_
      exact J_l6_16 w6_6 w8_6 0 hok _ _ ls hM (lv_sub hl [1, 2, 3, 4, 5, 6, 7, 8, 0] rfl)
  refine lv_lconst (v := 0) hx hb dL_chance_0 (by decide) ?_
  refine lv_lstore (lv' := [(6, .long 0), (0, .ref q2), (1, .ref q4), (2, .int p2), (3, .int p3), (4, .int p4), (5, .int p5)]) hx hb dL_chance_1 hl (by decide) rfl (fun ls hl => ?_)
  refine lv_iconst (v := 0) hx hb dL_chance_3 (by decide) ?_
  refine lv_istore (lv' := [(8, .int 0), (6, .long 0), (0, .ref q2), (1, .ref q4), (2, .int p2), (3, .int p3), (4, .int p4), (5, .int p5)]) hx hb dL_chance_4 hl (by decide) rfl (fun ls hl => ?_)
  refine W.widen (k := 0) (n := 0) (by omega) (by omega) ?_
  exact J_m6 0 0 hok _ _ ls hM (lv_sub hl [2, 3, 4, 5, 6, 7, 1, 0] rfl)
