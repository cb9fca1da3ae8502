/-- what is asked on the one side, and on the other -/
def oif (c A B : Prop) : Prop := (c → A) ∧ (¬ c → B)
theorem oif_pos {c A B : Prop} (h : oif c A B) (hc : c) : A := h.1 hc
theorem oif_neg {c A B : Prop} (h : oif c A B) (hc : ¬ c) : B := h.2 hc
/-! ===== java.lang.Math: no entry of the machine's own stands for these ===== -/
section XMATH
variable {p : Program} {l : Launch} {D : va_G} {a : Nat → ClassId} {y : MethodName} {bytes : ByteArray} {maxL fr lo : Nat} {ret : Option FieldType} {av : List Value}
theorem ofWF {ws ws' : List Cond} {rm : Room} {Pc : Array Value → State → Prop} {Qc : Array Value → State → Outcome → State → Prop} {mc ms : Nat} {free : Addr → Prop} {cc : ByteArray}
    (hy : plainFor y = true) (hw : ws = Cond.code y cc maxL ret :: ws')
    (body : ∀ p e s m args below meth c s₁, BodyLoose p l y (headSpec ws rm) cc maxL ret e s m args below meth c s₁ → c.maxLocals = maxL → Pc args s →
      W p l e (headSpec ws rm).room s m args below meth c s.heap [] 0 0 (MQ below Qc args s mc ms free) (entryFrame m args maxL)) : Met l y ws rm Pc Qc mc ms free := by
  refine MetFree.of_bodySF (code := cc) (maxLocals := maxL) (ret := ret) hy ?_ ?_
  · intro args s m h hn
    obtain ⟨meth, c, h1, h2, h3, h4, h5, h6, -, -⟩ := Cond.code_spec hn (atoms_spec (ws := ws) h _ (by rw [hw]; exact List.mem_cons_self))
    exact ⟨meth, c, h1, h2, h3, h4, h5, h6⟩
  · intro p e s m args below meth c s₁ B hml hP _
    have hh0 : s₁.heap = s.heap := by rw [B.state]; rfl
    obtain ⟨t, a1, o, b1, b2, b3⟩ := body p e s m args below meth c s₁ B hml hP s₁ hh0 (Stand.of_body B)
    exact ⟨t, o, a1, b1, b2, ⟨b3.1, b3.2⟩⟩
theorem start0F {B : State → Prop} {v : Value} (hy : plainFor y = true) (hBK : ∀ U, B U → va_K D vwCl (tyL a) U) (hlen : (lg_sl av).length ≤ maxL)
    (body : ∀ (p : Program) (e : Env) (s : State) (m : MethodId) (below : List Frame) (meth : Method) (c : Code) (ls : Array Slot), Cx D a p s m av.toArray c bytes maxL y.cls → meth.sig.returnType = ret → meth.locks = false → B s → lv_has ls maxL (lv_args 0 av) →
      W p l e { frames := fr, cells := 0, slots := 0, locals := lo } s m av.toArray below meth c s.heap [] 0 0 (MQ below (fun _ st oc t => oc = .returned (some v) ∧ t.heap = st.heap) av.toArray s 0 0 (fun _ => False)) (F0 m 0 ls [])) : K0 l y bytes maxL ret fr lo av B v := by
  refine ofWF (cc := bytes) (maxL := maxL) (ret := ret) hy rfl ?_
  intro p e s m args below meth c s₁ B' hml hv
  obtain ⟨rfl, hB⟩ := hv
  have C : Cx D a p s m av.toArray c bytes maxL y.cls := ⟨⟨B'.exec, B'.bytes, hml, findClass_of_methodNamed B'.named, fun w h => atoms_spec (ws := .code y bytes maxL ret :: TB) B'.pre w (List.mem_cons_of_mem _ h)⟩, hBK s hB⟩
  have hl := lv_entry av (n := maxL) hlen
  rw [lg_entry_eq]
  exact body p e s m below meth c _ C B'.returns B'.notSynchronized hB hl
theorem go0iF {B : State → Prop} {F : Int32} (hy : plainFor y = true) (hBK : ∀ U, B U → va_K D vwCl (tyL a) U) (hlen : (lg_sl av).length ≤ maxL)
    (body : Go l D a y bytes maxL fr lo av (fun p s m args below meth c e R Q => B s ∧ ∀ (pc : Nat) (ls : Array Slot) (x : Int32), decode bytes pc = .ok (.ireturn, 1) → F = x → W p l e R s m args below meth c s.heap [] 0 0 Q (F0 m pc ls [.int x]))) : K0 l y bytes maxL (some .int) fr lo av B (.int F) :=
  start0F hy hBK hlen fun p e s m below meth c ls C hr hk hB hl => body p e s m _ below meth c ls _ _ rfl rfl C hl ⟨hB, fun _ _ _ hdg hf => ret0i C hr hk hdg hf⟩
theorem go0lF {B : State → Prop} {F : Int64} (hy : plainFor y = true) (hBK : ∀ U, B U → va_K D vwCl (tyL a) U) (hlen : (lg_sl av).length ≤ maxL)
    (body : Go l D a y bytes maxL fr lo av (fun p s m args below meth c e R Q => B s ∧ ∀ (pc : Nat) (ls : Array Slot) (x : Int64), decode bytes pc = .ok (.lreturn, 1) → F = x → W p l e R s m args below meth c s.heap [] 0 0 Q (F0 m pc ls [.long x]))) : K0 l y bytes maxL (some .long) fr lo av B (.long F) :=
  start0F hy hBK hlen fun p e s m below meth c ls C hr hk hB hl => body p e s m _ below meth c ls _ _ rfl rfl C hl ⟨hB, fun _ _ _ hdg hf => ret0l C hr hk hdg hf⟩
theorem mRows : (Jvm.natives.all fun r => r.cls != "java/lang/Math" || ["(D)D", "(DD)D", "(DDD)D", "(F)F", "(FF)F", "(FFF)F"].contains r.desc) = true := by decide +kernel
theorem mPlain {x : MethodName} (hc : x.cls = "java/lang/Math") (hd : ["(D)D", "(DD)D", "(DDD)D", "(F)F", "(FF)F", "(FFF)F"].contains x.desc = false) : plainFor x = true := by
  unfold plainFor
  rw [Bool.or_eq_true]; right
  rw [Option.isNone_iff_eq_none, NativeRow.find?, List.find?_eq_none]
  intro r hr h
  have := List.all_eq_true.mp mRows r hr
  simp only [Bool.and_eq_true, beq_iff_eq] at h
  rw [h.1.2, h.2, hc, hd] at this
  simp at this
end XMATH
theorem tb_len7 (i1 i2 i3 i4 i5 i6 : Int32) (q : Nat) (b : Nat) : (lg_sl [.ref b, .int i1, .int i2, .int i3, .int i4, .int i5, .int i6, rv q]).length ≤ 8 := by
  by_cases h : q = 0
  · subst h; exact Nat.le_of_ble_eq_true rfl
  · rw [rv_s h]; exact Nat.le_of_ble_eq_true rfl

/-! ===== the class's methods ===== -/
theorem xne0 {D : va_G} {a : Nat → ClassId} {x e0 : Nat} {A : Nat → Prop} {σ : XS} {H : Heap} {q K : Nat} (h : XP D a x e0 A σ H) (hk : xk σ q = K) (h0 : K ≠ 0) : q ≠ 0 := xP_ne0 h (by rw [hk]; exact h0)
theorem str_91 : (RX10, 91, "there are as many cameras as there may be") ∈ STRW := by decide +kernel
theorem str_138 : (RX10, 138, "there were clouds over the camera in that night") ∈ STRW := by decide +kernel
theorem str_148 : (RX10, 148, "no sighting was begun") ∈ STRW := by decide +kernel
theorem str_157 : (RX10, 157, "clouds were told since the sighting was begun") ∈ STRW := by decide +kernel
theorem str_159 : (RX10, 159, "there are as many sightings as there may be") ∈ STRW := by decide +kernel
theorem str_219 : (RX10, 219, "winds of as many nights were told as may be") ∈ STRW := by decide +kernel
theorem str_231 : (RX10, 231, "there were as many walks as there may be") ∈ STRW := by decide +kernel
theorem str_247 : (RX10, 247, "there are as many stones as there may be") ∈ STRW := by decide +kernel
theorem str_354 : (RX10, 354, "an argument is out of its range") ∈ STRW := by decide +kernel
theorem str_356 : (RX10, 356, "both of a direction are 0") ∈ STRW := by decide +kernel
theorem str_360 : (RX10, 360, "there is no such camera") ∈ STRW := by decide +kernel
theorem str_363 : (RX10, 363, "there is no such sighting") ∈ STRW := by decide +kernel
theorem str_368 : (RX10, 368, "there is no such fireball") ∈ STRW := by decide +kernel
theorem str_370 : (RX10, 370, "there is no such stone") ∈ STRW := by decide +kernel
theorem cb_1 : Cond.castable RX0 "java/lang/Object" ∈ NBW := by decide +kernel
theorem cb_5 : Cond.castable RX4 "java/lang/Object" ∈ NBW := by decide +kernel
theorem cb_7 : Cond.castable RX6 "java/lang/Object" ∈ NBW := by decide +kernel
theorem cb_8 : Cond.castable RX7 "java/lang/Object" ∈ NBW := by decide +kernel
theorem cb_9 : Cond.castable RX8 "java/lang/Object" ∈ NBW := by decide +kernel
theorem cb_10 : Cond.castable RX9 "java/lang/Object" ∈ NBW := by decide +kernel
theorem cw_X2_42 : CWS RX2 42 yJ9_floorDiv_f86c9 cJ9_floorDiv_f86c9 6 ((some .long)) 2 := ⟨q_487, q_488, q_34, q_489, ⟨by decide +kernel, by decide +kernel, by decide +kernel⟩⟩
theorem cw_X2_20 : CWV RX2 RX2 20 yX2_isOf cX2_isOf 17 ((some .boolean)) 6 := ⟨q_482, q_483, q_484, q_30, q_485, rfl, ⟨by decide +kernel, by decide +kernel, by decide +kernel⟩⟩
theorem cw_X3_31 : CWS RX3 31 yJ9_floorDiv_f86c9 cJ9_floorDiv_f86c9 6 ((some .long)) 2 := ⟨q_715, q_488, q_34, q_489, ⟨by decide +kernel, by decide +kernel, by decide +kernel⟩⟩
theorem cw_X3_37 : CWV RX3 RX3 37 yX3_pieceX cX3_pieceX 2 ((some .long)) 1 := ⟨q_710, q_711, q_712, q_31, q_713, rfl, ⟨by decide +kernel, by decide +kernel, by decide +kernel⟩⟩
theorem cw_X3_41 : CWS RX3 41 yJ9_abs_067f4 cJ9_abs_067f4 2 ((some .long)) 1 := ⟨q_716, q_717, q_34, q_718, ⟨by decide +kernel, by decide +kernel, by decide +kernel⟩⟩
theorem cw_X3_45 : CWV RX3 RX3 45 yX3_pieceY cX3_pieceY 2 ((some .long)) 1 := ⟨q_719, q_720, q_721, q_31, q_722, rfl, ⟨by decide +kernel, by decide +kernel, by decide +kernel⟩⟩
theorem cw_X3_48 : CWS RX3 48 yJ9_max_f86c9 cJ9_max_f86c9 4 ((some .long)) 2 := ⟨q_723, q_510, q_34, q_511, ⟨by decide +kernel, by decide +kernel, by decide +kernel⟩⟩
theorem cw_X3_61 : CWS RX3 61 yJ9_min_f86c9 cJ9_min_f86c9 4 ((some .long)) 2 := ⟨q_744, q_745, q_34, q_746, ⟨by decide +kernel, by decide +kernel, by decide +kernel⟩⟩
theorem cw_X3_55 : CWS RX3 55 yX3_cellsWithin cX3_cellsWithin 7 ((some .long)) 2 := ⟨q_740, q_741, q_31, q_742, ⟨by decide +kernel, by decide +kernel, by decide +kernel⟩⟩
theorem cw_X4_50 : CWS RX4 50 yJ9_max_f86c9 cJ9_max_f86c9 4 ((some .long)) 2 := ⟨q_509, q_510, q_34, q_511, ⟨by decide +kernel, by decide +kernel, by decide +kernel⟩⟩
theorem cw_X10_469 : CWS RX10 469 yJ9_floorDiv_f86c9 cJ9_floorDiv_f86c9 6 ((some .long)) 2 := ⟨q_527, q_488, q_34, q_489, ⟨by decide +kernel, by decide +kernel, by decide +kernel⟩⟩
theorem cw_X4_64 : CWZ RX4 "FireNet" 64 yX10_divided cX10_divided 4 ((some .long)) 2 := ⟨by decide +kernel, q_525, q_26, q_526, ⟨by decide +kernel, by decide +kernel, by decide +kernel⟩⟩
theorem cw_X4_69 : CWV RX4 RX4 69 yX4_flightX cX4_flightX 1 ((some .long)) 0 := ⟨q_528, q_529, q_530, q_32, q_531, rfl, ⟨by decide +kernel, by decide +kernel, by decide +kernel⟩⟩
theorem cw_X4_73 : CWV RX4 RX4 73 yX4_flightY cX4_flightY 1 ((some .long)) 0 := ⟨q_532, q_533, q_534, q_32, q_535, rfl, ⟨by decide +kernel, by decide +kernel, by decide +kernel⟩⟩
theorem cw_X4_76 : CWZ RX4 "FireNet" 76 yX10_rootOf cX10_rootOf 7 ((some .long)) 1 := ⟨by decide +kernel, q_537, q_26, q_538, ⟨by decide +kernel, by decide +kernel, by decide +kernel⟩⟩
theorem cw_X6_36 : CWV RX6 RX6 36 yX6_counts cX6_counts 1 ((some .boolean)) 0 := ⟨q_467, q_468, q_469, q_46, q_470, rfl, ⟨by decide +kernel, by decide +kernel, by decide +kernel⟩⟩
theorem cw_X6_40 : CWV RX6 RX6 40 yX6_rightSecond cX6_rightSecond 1 ((some .int)) 0 := ⟨q_471, q_472, q_473, q_46, q_474, rfl, ⟨by decide +kernel, by decide +kernel, by decide +kernel⟩⟩
theorem cw_X6_44 : CWS RX6 44 yJ9_abs_0f7a4 cJ9_abs_0f7a4 1 ((some .int)) 1 := ⟨q_475, q_476, q_34, q_477, ⟨by decide +kernel, by decide +kernel, by decide +kernel⟩⟩
theorem cw_X10_81 : CWS RX10 81 yX10_requireRange cX10_requireRange 3 none 3 := ⟨q_287, q_288, q_26, q_289, ⟨by decide +kernel, by decide +kernel, by decide +kernel⟩⟩
theorem cw_X10_77 : CWS RX10 77 yX10_requireCell cX10_requireCell 2 none 2 := ⟨q_284, q_285, q_26, q_286, ⟨by decide +kernel, by decide +kernel, by decide +kernel⟩⟩
theorem cw_X10_98 : CWI RX10 98 yX0_init cX0_init 4 3 := ⟨q_385, q_386, q_42, q_387, rfl, ⟨by decide +kernel, by decide +kernel, by decide +kernel⟩⟩
theorem cw_X10_388 : CWV RX10 RX6 388 yX6_mayJoin cX6_mayJoin 2 ((some .boolean)) 1 := ⟨q_463, q_464, q_465, q_46, q_466, rfl, ⟨by decide +kernel, by decide +kernel, by decide +kernel⟩⟩
theorem cw_X10_392 : CWV RX10 RX2 392 yX2_isOfBegins cX2_isOfBegins 3 ((some .boolean)) 2 := ⟨q_478, q_479, q_480, q_30, q_481, rfl, ⟨by decide +kernel, by decide +kernel, by decide +kernel⟩⟩
theorem cw_X10_395 : CWV RX10 RX2 395 yX2_isOfEnds cX2_isOfEnds 3 ((some .boolean)) 2 := ⟨q_490, q_491, q_492, q_30, q_493, rfl, ⟨by decide +kernel, by decide +kernel, by decide +kernel⟩⟩
theorem cw_X10_384 : CWV RX10 RX10 384 yX10_doJoin cX10_doJoin 3 ((some .boolean)) 2 := ⟨q_459, q_461, q_7, q_26, q_462, rfl, ⟨by decide +kernel, by decide +kernel, by decide +kernel⟩⟩
theorem cw_X10_401 : CWS RX10 401 yX10_holds cX10_holds 3 ((some .boolean)) 2 := ⟨q_502, q_503, q_26, q_504, ⟨by decide +kernel, by decide +kernel, by decide +kernel⟩⟩
theorem cw_X10_415 : CWV RX10 RX4 415 yX4_addPair cX4_addPair 3 none 2 := ⟨q_516, q_517, q_518, q_32, q_519, rfl, ⟨by decide +kernel, by decide +kernel, by decide +kernel⟩⟩
theorem cw_X10_398 : CWV RX10 RX10 398 yX10_groupOf cX10_groupOf 9 ((some .long)) 1 := ⟨q_498, q_500, q_9, q_26, q_501, rfl, ⟨by decide +kernel, by decide +kernel, by decide +kernel⟩⟩
theorem cw_X10_405 : CWV RX10 RX4 405 yX4_add cX4_add 2 none 1 := ⟨q_505, q_506, q_507, q_32, q_508, rfl, ⟨by decide +kernel, by decide +kernel, by decide +kernel⟩⟩
theorem cw_X10_408 : CWV RX10 RX10 408 yX10_addPlaces cX10_addPlaces 6 none 3 := ⟨q_512, q_514, q_10, q_26, q_515, rfl, ⟨by decide +kernel, by decide +kernel, by decide +kernel⟩⟩
theorem cw_X10_412 : CWV RX10 RX4 412 yX4_settle cX4_settle 3 none 0 := ⟨q_520, q_521, q_522, q_32, q_523, rfl, ⟨by decide +kernel, by decide +kernel, by decide +kernel⟩⟩
theorem cw_X10_374 : CWV RX10 RX4 374 yX4_clear cX4_clear 1 none 0 := ⟨q_450, q_451, q_452, q_32, q_453, rfl, ⟨by decide +kernel, by decide +kernel, by decide +kernel⟩⟩
theorem cw_X10_377 : CWV RX10 RX10 377 yX10_joinSightings cX10_joinSightings 5 none 0 := ⟨q_454, q_456, q_6, q_26, q_457, rfl, ⟨by decide +kernel, by decide +kernel, by decide +kernel⟩⟩
theorem cw_X10_380 : CWV RX10 RX10 380 yX10_gatherInto cX10_gatherInto 7 none 2 := ⟨q_494, q_496, q_8, q_26, q_497, rfl, ⟨by decide +kernel, by decide +kernel, by decide +kernel⟩⟩
theorem cw_X10_100 : CWV RX10 RX10 100 yX10_existingCamera cX10_existingCamera 2 ((some (.object "FireNet$Camera"))) 1 := ⟨q_407, q_409, q_4, q_26, q_410, rfl, ⟨by decide +kernel, by decide +kernel, by decide +kernel⟩⟩
theorem cw_X10_108 : CWV RX10 RX10 108 yX10_gatherFireballs cX10_gatherFireballs 3 none 0 := ⟨q_446, q_448, q_5, q_26, q_449, rfl, ⟨by decide +kernel, by decide +kernel, by decide +kernel⟩⟩
theorem cw_X10_133 : CWV RX10 RX10 133 yX10_cloudyNights cX10_cloudyNights 7 ((some .int)) 3 := ⟨q_553, q_555, q_12, q_26, q_556, rfl, ⟨by decide +kernel, by decide +kernel, by decide +kernel⟩⟩
theorem cw_X10_111 : CWS RX10 111 yX10_requireNight cX10_requireNight 1 none 1 := ⟨q_545, q_546, q_26, q_547, ⟨by decide +kernel, by decide +kernel, by decide +kernel⟩⟩
theorem cw_X10_115 : CWV RX10 RX10 115 yX10_isCloudy cX10_isCloudy 3 ((some .boolean)) 2 := ⟨q_549, q_551, q_11, q_26, q_552, rfl, ⟨by decide +kernel, by decide +kernel, by decide +kernel⟩⟩
theorem cw_X10_142 : CWI RX10 142 yX6_init cX6_init 6 5 := ⟨q_560, q_561, q_46, q_562, rfl, ⟨by decide +kernel, by decide +kernel, by decide +kernel⟩⟩
theorem cw_X10_145 : CWS RX10 145 yX10_requireDirection cX10_requireDirection 2 none 2 := ⟨q_616, q_617, q_26, q_618, ⟨by decide +kernel, by decide +kernel, by decide +kernel⟩⟩
theorem cw_X10_173 : CWV RX10 RX10 173 yX10_existingSighting cX10_existingSighting 2 ((some (.object "FireNet$Sighting"))) 1 := ⟨q_873, q_875, q_22, q_26, q_876, rfl, ⟨by decide +kernel, by decide +kernel, by decide +kernel⟩⟩
theorem cw_X10_191 : CWV RX10 RX10 191 yX10_spreadLowest cX10_spreadLowest 6 ((some .boolean)) 0 := ⟨q_882, q_884, q_23, q_26, q_885, rfl, ⟨by decide +kernel, by decide +kernel, by decide +kernel⟩⟩
theorem cw_X10_365 : CWV RX10 RX4 365 yX4_exists cX4_exists 1 ((some .boolean)) 0 := ⟨q_657, q_658, q_659, q_32, q_660, rfl, ⟨by decide +kernel, by decide +kernel, by decide +kernel⟩⟩
theorem cw_X10_195 : CWV RX10 RX10 195 yX10_countFireballs cX10_countFireballs 7 ((some .int)) 3 := ⟨q_890, q_892, q_24, q_26, q_893, rfl, ⟨by decide +kernel, by decide +kernel, by decide +kernel⟩⟩
theorem cw_X10_199 : CWV RX10 RX10 199 yX10_existingFireball cX10_existingFireball 2 ((some (.object "FireNet$Fireball"))) 1 := ⟨q_653, q_655, q_14, q_26, q_656, rfl, ⟨by decide +kernel, by decide +kernel, by decide +kernel⟩⟩
theorem cw_X10_203 : CWV RX10 RX4 203 yX4_number cX4_number 2 ((some .long)) 1 := ⟨q_898, q_899, q_900, q_32, q_901, rfl, ⟨by decide +kernel, by decide +kernel, by decide +kernel⟩⟩
theorem cw_X10_215 : CWV RX10 RX10 215 yX10_windOf cX10_windOf 3 ((some (.object "FireNet$Wind"))) 1 := ⟨q_627, q_629, q_13, q_26, q_630, rfl, ⟨by decide +kernel, by decide +kernel, by decide +kernel⟩⟩
theorem cw_X10_223 : CWI RX10 223 yX9_init cX9_init 2 1 := ⟨q_634, q_635, q_47, q_636, rfl, ⟨by decide +kernel, by decide +kernel, by decide +kernel⟩⟩
theorem cw_X10_424 : CWV RX10 RX8 424 yX8_isThrough cX8_isThrough 4 ((some .boolean)) 3 := ⟨q_669, q_670, q_671, q_48, q_672, rfl, ⟨by decide +kernel, by decide +kernel, by decide +kernel⟩⟩
theorem cw_X10_453 : CWV RX10 RX3 453 yX3_weightOfGround cX3_weightOfGround 9 ((some .long)) 0 := ⟨q_736, q_737, q_738, q_31, q_739, rfl, ⟨by decide +kernel, by decide +kernel, by decide +kernel⟩⟩
theorem cw_X10_431 : CWV RX10 RX3 431 yX3_weight cX3_weight 8 ((some .long)) 2 := ⟨q_706, q_707, q_708, q_31, q_709, rfl, ⟨by decide +kernel, by decide +kernel, by decide +kernel⟩⟩
theorem cw_X10_435 : CWV RX10 RX10 435 yX10_weightLeft cX10_weightLeft 10 ((some .long)) 4 := ⟨q_726, q_728, q_17, q_26, q_729, rfl, ⟨by decide +kernel, by decide +kernel, by decide +kernel⟩⟩
theorem cw_X10_427 : CWV RX10 RX3 427 yX3_scatter cX3_scatter 4 none 3 := ⟨q_702, q_703, q_704, q_31, q_705, rfl, ⟨by decide +kernel, by decide +kernel, by decide +kernel⟩⟩
theorem cw_X10_441 : CWV RX10 RX10 441 yX10_weightOfGround cX10_weightOfGround 8 ((some .long)) 1 := ⟨q_732, q_734, q_18, q_26, q_735, rfl, ⟨by decide +kernel, by decide +kernel, by decide +kernel⟩⟩
theorem cw_X10_444 : CWS RX10 444 yX10_divided cX10_divided 4 ((some .long)) 2 := ⟨q_747, q_525, q_26, q_526, ⟨by decide +kernel, by decide +kernel, by decide +kernel⟩⟩
theorem cw_X10_235 : CWV RX10 RX10 235 yX10_wasWalked cX10_wasWalked 5 ((some .boolean)) 3 := ⟨q_665, q_667, q_15, q_26, q_668, rfl, ⟨by decide +kernel, by decide +kernel, by decide +kernel⟩⟩
theorem cw_X10_239 : CWI RX10 239 yX8_init cX8_init 6 5 := ⟨q_673, q_674, q_48, q_675, rfl, ⟨by decide +kernel, by decide +kernel, by decide +kernel⟩⟩
theorem cw_X10_242 : CWV RX10 RX10 242 yX10_chanceIn cX10_chanceIn 6 ((some .long)) 4 := ⟨q_698, q_700, q_16, q_26, q_701, rfl, ⟨by decide +kernel, by decide +kernel, by decide +kernel⟩⟩
theorem cw_X10_249 : CWS RX10 249 yX10_landOf cX10_landOf 2 ((some .int)) 2 := ⟨q_754, q_755, q_26, q_756, ⟨by decide +kernel, by decide +kernel, by decide +kernel⟩⟩
theorem cw_X10_253 : CWV RX10 RX10 253 yX10_lawIn cX10_lawIn 2 ((some .int)) 1 := ⟨q_757, q_759, q_19, q_26, q_760, rfl, ⟨by decide +kernel, by decide +kernel, by decide +kernel⟩⟩
theorem cw_X10_259 : CWI RX10 259 yX7_init cX7_init 8 7 := ⟨q_763, q_764, q_49, q_765, rfl, ⟨by decide +kernel, by decide +kernel, by decide +kernel⟩⟩
theorem cw_X10_264 : CWV RX10 RX10 264 yX10_existingStone cX10_existingStone 2 ((some (.object "FireNet$Stone"))) 1 := ⟨q_819, q_821, q_20, q_26, q_822, rfl, ⟨by decide +kernel, by decide +kernel, by decide +kernel⟩⟩
theorem cw_X10_268 : CWV RX10 RX10 268 yX10_fallOf cX10_fallOf 9 ((some .int)) 1 := ⟨q_824, q_826, q_21, q_26, q_827, rfl, ⟨by decide +kernel, by decide +kernel, by decide +kernel⟩⟩
def f_X0_init (σ : XS) (q0 : Nat) (p1 : Int32) (p2 : Int32) (p3 : Int32) : Unit × XS := ((), (xI (xI (xI σ 20 q0 p1) 21 q0 p2) 22 q0 p3))
def of_X0_init (σ : XS) (q0 : Nat) (p1 : Int32) (p2 : Int32) (p3 : Int32) : Prop := ((xk σ q0) = 1 ∧ True)
set_option maxHeartbeats 4000000 in
set_option maxRecDepth 100000 in
theorem k_X0_init (l : Launch) (D : va_G) (a : Nat → ClassId) (x : Nat) (e0 : Nat) (A : Nat → Prop) (σ : XS) (q0 : Nat) (p1 : Int32) (p2 : Int32) (p3 : Int32) (hok : of_X0_init σ q0 p1 p2 p3) : KX l D a x e0 A yX0_init cX0_init 4 none 1 30 0 0 [.ref q0, .int p1, .int p2, .int p3] σ (fun _ => none) (fun _ => f_X0_init σ q0 p1 p2 p3) := by
  refine goXv (by decide +kernel) (Nat.le_of_ble_eq_true rfl) ?_
  intro p e s m args below meth c ls R Q nq hRf hRl hRc hRs hnq C hE hM hl hmn ret
  have hmn := hmn rfl
  have hl : lv_has ls 4 [(0, .ref q0), (1, .int p1), (2, .int p2), (3, .int p3)] := hl
  have hx := C.1.1
  have hb := C.1.2.1
  have hts := C.1.2.2.2.2
  have hown := C.1.2.2.2.1
  have hf : (f_X0_init σ q0 p1 p2 p3) = (f_X0_init σ q0 p1 p2 p3) := rfl
  refine lv_aload_n hx hb dX0_init_0 rfl (lv_at hl 0 rfl) ?_
  refine ox_init C q_388 hl.1 (by rw [hRf]; exact Nat.le_of_ble_eq_true rfl) (by rw [hRl]; exact Nat.le_of_ble_eq_true rfl) dX0_init_1 ?_
  refine lv_aload_n hx hb dX0_init_4 rfl (lv_at hl 0 rfl) ?_
  refine lv_iload_n hx hb dX0_init_5 rfl (lv_at hl 1 rfl) ?_
  have hk_1 := And.left hok
  have hok := And.right hok
  refine xp_X0_7 C hM hk_1 hmn dX0_init_6 (fun H locs hM => ?_)
  refine lv_aload_n hx hb dX0_init_9 rfl (lv_at hl 0 rfl) ?_
  refine lv_iload_n hx hb dX0_init_10 rfl (lv_at hl 2 rfl) ?_
  refine xp_X0_13 C hM hk_1 hmn dX0_init_11 (fun H locs hM => ?_)
  refine lv_aload_n hx hb dX0_init_14 rfl (lv_at hl 0 rfl) ?_
  refine lv_iload_n hx hb dX0_init_15 rfl (lv_at hl 3 rfl) ?_
  refine xp_X0_16 C hM hk_1 dX0_init_16 (fun H locs hM => ?_)
  exact ret _ _ _ _ _ hM dX0_init_19 hf
def f_X1_init (σ : XS) (q0 : Nat) (p1 : Nat) (p2 : Int32) : Unit × XS := ((), (xI (xR σ 40 q0 p1) 41 q0 p2))
def of_X1_init (σ : XS) (q0 : Nat) (p1 : Nat) (p2 : Int32) : Prop := ((xk σ q0) = 2 ∧ ((xk σ p1) = 1 ∧ True))
def f_J9_floorDiv_f86c9 (p1 : Int64) (p2 : Int64) : Int64 := (if 0 ≤ (lg_cmp (p1 ^^^ p2) 0) then (p1 / p2) else (if (lg_cmp ((p1 / p2) * p2) p1) = 0 then (p1 / p2) else ((p1 / p2) - 1)))
def of_J9_floorDiv_f86c9 (p1 : Int64) (p2 : Int64) : Prop := (¬ p2 = 0 ∧ True)
set_option maxHeartbeats 4000000 in
set_option maxRecDepth 100000 in
theorem k_J9_floorDiv_f86c9 (l : Launch) (D : va_G) (a : Nat → ClassId) (p1 : Int64) (p2 : Int64) (hok : of_J9_floorDiv_f86c9 p1 p2) : K0 l yJ9_floorDiv_f86c9 cJ9_floorDiv_f86c9 6 ((some .long)) 0 0 [.long p1, .long p2] (BK D a) (.long (f_J9_floorDiv_f86c9 p1 p2)) := by
  refine go0lF (D := D) (a := a) (mPlain rfl (by decide +kernel)) (fun _ h => h) (Nat.le_of_ble_eq_true rfl) ?_
  intro p e s m args below meth c ls R Q hRf hRl C hl hB
  obtain ⟨-, ret⟩ := hB
  have hl : lv_has ls 6 [(0, .long p1), (2, .long p2)] := hl
  have hx := C.1.1
  have hb := C.1.2.1
  have hts := C.1.2.2.2.2
  have hown := C.1.2.2.2.1
  have hf : (f_J9_floorDiv_f86c9 p1 p2) = (f_J9_floorDiv_f86c9 p1 p2) := rfl
  refine lv_lload_n hx hb dJ9_floorDiv_f86c9_0 rfl (lv_at hl 0 rfl) ?_
  refine lv_lload_n hx hb dJ9_floorDiv_f86c9_1 rfl (lv_at hl 1 rfl) ?_
  have ok_1 := And.left hok
  have hok := And.right hok
  refine lv_ldiv hx hb dJ9_floorDiv_f86c9_2 ok_1 ?_
  refine lv_lstore (lv' := [(4, .long (p1 / p2)), (0, .long p1), (2, .long p2)]) hx hb dJ9_floorDiv_f86c9_3 hl (by decide) rfl (fun ls hl => ?_)
  refine lv_lload_n hx hb dJ9_floorDiv_f86c9_5 rfl (lv_at hl 1 rfl) ?_
  refine lv_lload_n hx hb dJ9_floorDiv_f86c9_6 rfl (lv_at hl 2 rfl) ?_
  refine lv_lxor hx hb dJ9_floorDiv_f86c9_7 ?_
  refine lv_lconst (v := 0) hx hb dJ9_floorDiv_f86c9_8 (by decide) ?_
  refine W.lcmp hx hb dJ9_floorDiv_f86c9_9 ?_
  refine lv_if_ge (tgt := 27) hx hb dJ9_floorDiv_f86c9_10 (by decide) (fun c_2 => ?_) (fun c_2 => ?_)
  · have hf := hf.trans (if_pos c_2)
    refine lv_lload hx hb dJ9_floorDiv_f86c9_27 (lv_at hl 0 rfl) ?_
    exact ret _ _ _ dJ9_floorDiv_f86c9_29 hf
  · have hf := hf.trans (if_neg c_2)
    refine lv_lload hx hb dJ9_floorDiv_f86c9_13 (lv_at hl 0 rfl) ?_
    refine lv_lload_n hx hb dJ9_floorDiv_f86c9_15 rfl (lv_at hl 2 rfl) ?_
    refine lv_lmul hx hb dJ9_floorDiv_f86c9_16 ?_
    refine lv_lload_n hx hb dJ9_floorDiv_f86c9_17 rfl (lv_at hl 1 rfl) ?_
    refine W.lcmp hx hb dJ9_floorDiv_f86c9_18 ?_
    refine lv_if_eq (tgt := 27) hx hb dJ9_floorDiv_f86c9_19 (by decide) (fun c_3 => ?_) (fun c_3 => ?_)
    · have hf := hf.trans (if_pos c_3)
      refine lv_lload hx hb dJ9_floorDiv_f86c9_27 (lv_at hl 0 rfl) ?_
      exact ret _ _ _ dJ9_floorDiv_f86c9_29 hf
    · have hf := hf.trans (if_neg c_3)
      refine lv_lload hx hb dJ9_floorDiv_f86c9_22 (lv_at hl 0 rfl) ?_
      refine lv_lconst (v := 1) hx hb dJ9_floorDiv_f86c9_24 (by decide) ?_
      refine lv_lsub hx hb dJ9_floorDiv_f86c9_25 ?_
      exact ret _ _ _ dJ9_floorDiv_f86c9_26 hf
def f_X2_isOf_91 (σ : XS) (q0 : Nat) (p1 : Nat) (p2 : Int32) (p3 : Int32) (p4 : Nat) (p5 : Int32) (p6 : Int32) (v7_91 : Int64) (v13_91 : Int64) (v15_91 : Int64) : Int32 × XS := (if (lg_cmp v7_91 0) = 0 then (0, σ) else (if (lg_cmp v13_91 0) ≤ 0 then (0, σ) else (if 0 < (lg_cmp v15_91 0) then (1, (xJ (xJ σ 60 q0 (f_J9_floorDiv_f86c9 (100 * ((((xi σ 20 p1).toInt64) * v7_91) + (v13_91 * p2.toInt64))) v7_91)) 61 q0 (f_J9_floorDiv_f86c9 (100 * ((((xi σ 21 p1).toInt64) * v7_91) + (v13_91 * p3.toInt64))) v7_91))) else (0, σ))))
def of_X2_isOf_91 (σ : XS) (q0 : Nat) (p1 : Nat) (p2 : Int32) (p3 : Int32) (p4 : Nat) (p5 : Int32) (p6 : Int32) (v7_91 : Int64) (v13_91 : Int64) (v15_91 : Int64) : Prop := (oif ((lg_cmp v7_91 0) = 0) True (oif ((lg_cmp v13_91 0) ≤ 0) True (oif (0 < (lg_cmp v15_91 0)) ((xk σ p1) = 1 ∧ (of_J9_floorDiv_f86c9 (100 * ((((xi σ 20 p1).toInt64) * v7_91) + (v13_91 * p2.toInt64))) v7_91 ∧ ((xk σ q0) = 3 ∧ (of_J9_floorDiv_f86c9 (100 * ((((xi σ 21 p1).toInt64) * v7_91) + (v13_91 * p3.toInt64))) v7_91 ∧ True)))) True)))
def f_X2_isOf_41 (σ : XS) (q0 : Nat) (p1 : Nat) (p2 : Int32) (p3 : Int32) (p4 : Nat) (p5 : Int32) (p6 : Int32) (v7_41 : Int64) (v9_41 : Int64) (v11_41 : Int64) : Int32 × XS := (if 0 ≤ (lg_cmp v7_41 0) then (f_X2_isOf_91 σ q0 p1 p2 p3 p4 p5 p6 v7_41 ((v9_41 * p6.toInt64) - (v11_41 * p5.toInt64)) ((v9_41 * p3.toInt64) - (v11_41 * p2.toInt64))) else (f_X2_isOf_91 σ q0 p1 p2 p3 p4 p5 p6 (-v7_41) (-((v9_41 * p6.toInt64) - (v11_41 * p5.toInt64))) (-((v9_41 * p3.toInt64) - (v11_41 * p2.toInt64)))))
def of_X2_isOf_41 (σ : XS) (q0 : Nat) (p1 : Nat) (p2 : Int32) (p3 : Int32) (p4 : Nat) (p5 : Int32) (p6 : Int32) (v7_41 : Int64) (v9_41 : Int64) (v11_41 : Int64) : Prop := (oif (0 ≤ (lg_cmp v7_41 0)) (of_X2_isOf_91 σ q0 p1 p2 p3 p4 p5 p6 v7_41 ((v9_41 * p6.toInt64) - (v11_41 * p5.toInt64)) ((v9_41 * p3.toInt64) - (v11_41 * p2.toInt64))) (of_X2_isOf_91 σ q0 p1 p2 p3 p4 p5 p6 (-v7_41) (-((v9_41 * p6.toInt64) - (v11_41 * p5.toInt64))) (-((v9_41 * p3.toInt64) - (v11_41 * p2.toInt64)))))
def f_X2_isOf (σ : XS) (q0 : Nat) (p1 : Nat) (p2 : Int32) (p3 : Int32) (p4 : Nat) (p5 : Int32) (p6 : Int32) : Int32 × XS := (f_X2_isOf_41 σ q0 p1 p2 p3 p4 p5 p6 ((p2.toInt64 * p6.toInt64) - (p3.toInt64 * p5.toInt64)) (((xi σ 20 p4) - (xi σ 20 p1)).toInt64) (((xi σ 21 p4) - (xi σ 21 p1)).toInt64))
def of_X2_isOf (σ : XS) (q0 : Nat) (p1 : Nat) (p2 : Int32) (p3 : Int32) (p4 : Nat) (p5 : Int32) (p6 : Int32) : Prop := ((xk σ p4) = 1 ∧ ((xk σ p1) = 1 ∧ (of_X2_isOf_41 σ q0 p1 p2 p3 p4 p5 p6 ((p2.toInt64 * p6.toInt64) - (p3.toInt64 * p5.toInt64)) (((xi σ 20 p4) - (xi σ 20 p1)).toInt64) (((xi σ 21 p4) - (xi σ 21 p1)).toInt64))))
set_option maxHeartbeats 4000000 in
set_option maxRecDepth 100000 in
theorem k_X2_isOf (l : Launch) (D : va_G) (a : Nat → ClassId) (x : Nat) (e0 : Nat) (A : Nat → Prop) (σ : XS) (q0 : Nat) (p1 : Nat) (p2 : Int32) (p3 : Int32) (p4 : Nat) (p5 : Int32) (p6 : Int32) (hok : of_X2_isOf σ q0 p1 p2 p3 p4 p5 p6) : KX l D a x e0 A yX2_isOf cX2_isOf 17 ((some .boolean)) 1 25 0 0 [.ref q0, .ref p1, .int p2, .int p3, .ref p4, .int p5, .int p6] σ (fun v => some (.int v)) (fun _ => f_X2_isOf σ q0 p1 p2 p3 p4 p5 p6) := by
  refine goXz (by decide +kernel) (Nat.le_of_ble_eq_true rfl) ?_
  intro p e s m args below meth c ls R Q nq hRf hRl hRc hRs hnq C hE hM hl ret
  have hl : lv_has ls 17 [(0, .ref q0), (1, .ref p1), (2, .int p2), (3, .int p3), (4, .ref p4), (5, .int p5), (6, .int p6)] := hl
  have hx := C.1.1
  have hb := C.1.2.1
  have hts := C.1.2.2.2.2
  have hown := C.1.2.2.2.1
  have hf : (f_X2_isOf σ q0 p1 p2 p3 p4 p5 p6) = (f_X2_isOf σ q0 p1 p2 p3 p4 p5 p6) := rfl
  have J_91 : ∀ (v7_91 : Int64) (v13_91 : Int64) (v15_91 : Int64), (f_X2_isOf σ q0 p1 p2 p3 p4 p5 p6) = f_X2_isOf_91 σ q0 p1 p2 p3 p4 p5 p6 v7_91 v13_91 v15_91 → of_X2_isOf_91 σ q0 p1 p2 p3 p4 p5 p6 v7_91 v13_91 v15_91 → ∀ (ls : Array Slot), lv_has ls 17 [(0, .ref q0), (1, .ref p1), (2, .int p2), (3, .int p3), (7, .long v7_91), (13, .long v13_91), (15, .long v15_91)] → W p l e R s m args below meth c s.heap [] 0 0 Q (F0 m 91 ls []) := by
    intro v7_91 v13_91 v15_91 hf hok ls hl
    refine lv_lload hx hb dX2_isOf_91 (lv_at hl 4 rfl) ?_
    refine lv_lconst (v := 0) hx hb dX2_isOf_93 (by decide) ?_
    refine W.lcmp hx hb dX2_isOf_94 ?_
    refine lv_if_eq (tgt := 112) hx hb dX2_isOf_95 (by decide) (fun c_4 => ?_) (fun c_4 => ?_)
    · have hf := hf.trans (if_pos c_4)
      have hok := oif_pos hok c_4
      refine lv_iconst (v := 0) hx hb dX2_isOf_112 (by decide) ?_
      exact ret _ _ _ _ _ _ hM dX2_isOf_113 (by unfold zb; decide) hf
    · have hf := hf.trans (if_neg c_4)
      have hok := oif_neg hok c_4
      refine lv_lload hx hb dX2_isOf_98 (lv_at hl 5 rfl) ?_
      refine lv_lconst (v := 0) hx hb dX2_isOf_100 (by decide) ?_
      refine W.lcmp hx hb dX2_isOf_101 ?_
      refine lv_if_le (tgt := 112) hx hb dX2_isOf_102 (by decide) (fun c_5 => ?_) (fun c_5 => ?_)
      · have hf := hf.trans (if_pos c_5)
        have hok := oif_pos hok c_5
        refine lv_iconst (v := 0) hx hb dX2_isOf_112 (by decide) ?_
        exact ret _ _ _ _ _ _ hM dX2_isOf_113 (by unfold zb; decide) hf
      · have hf := hf.trans (if_neg c_5)
        have hok := oif_neg hok c_5
        refine lv_lload hx hb dX2_isOf_105 (lv_at hl 6 rfl) ?_
        refine lv_lconst (v := 0) hx hb dX2_isOf_107 (by decide) ?_
        refine W.lcmp hx hb dX2_isOf_108 ?_
        refine lv_if_gt (tgt := 114) hx hb dX2_isOf_109 (by decide) (fun c_6 => ?_) (fun c_6 => ?_)
        · have hf := hf.trans (if_pos c_6)
          have hok := oif_pos hok c_6
          refine lv_aload_n hx hb dX2_isOf_114 rfl (lv_at hl 0 rfl) ?_
          refine lv_ldc2 (v := 100) hx hb hown (hts _ q_486) dX2_isOf_115 ?_
          refine lv_aload_n hx hb dX2_isOf_118 rfl (lv_at hl 1 rfl) ?_
          have hk_7 := And.left hok
          have hok := And.right hok
          refine xg_X2_32 C hM hk_7 dX2_isOf_119 ?_
          refine lv_i2l (v := ((xi σ 20 p1).toInt64)) hx hb dX2_isOf_122 rfl ?_
          refine lv_lload hx hb dX2_isOf_123 (lv_at hl 4 rfl) ?_
          refine lv_lmul hx hb dX2_isOf_125 ?_
          refine lv_lload hx hb dX2_isOf_126 (lv_at hl 5 rfl) ?_
          refine lv_iload_n hx hb dX2_isOf_128 rfl (lv_at hl 2 rfl) ?_
          refine lv_i2l (v := p2.toInt64) hx hb dX2_isOf_129 rfl ?_
          refine lv_lmul hx hb dX2_isOf_130 ?_
          refine lv_ladd hx hb dX2_isOf_131 ?_
          refine lv_lmul hx hb dX2_isOf_132 ?_
          refine lv_lload hx hb dX2_isOf_133 (lv_at hl 4 rfl) ?_
          have ok_8 := And.left hok
          have hok := And.right hok
          refine cc_S (av := [.long (100 * ((((xi σ 20 p1).toInt64) * v7_91) + (v13_91 * p2.toInt64))), .long v7_91]) C (k_J9_floorDiv_f86c9 l D a (100 * ((((xi σ 20 p1).toInt64) * v7_91) + (v13_91 * p2.toInt64))) v7_91 ok_8) cw_X2_42 (okR_of hRf hRl (Nat.le_of_ble_eq_true rfl) (Nat.le_of_ble_eq_true rfl)) rfl rfl hl.1 (Nat.le_of_ble_eq_true rfl) (Nat.zero_le _) (Nat.zero_le _) dX2_isOf_135 ?_
          have hk_9 := And.left hok
          have hok := And.right hok
          refine xp_X2_48 C hM hk_9 dX2_isOf_138 (fun H locs hM => ?_)
          refine lv_aload_n hx hb dX2_isOf_141 rfl (lv_at hl 0 rfl) ?_
          refine lv_ldc2 (v := 100) hx hb hown (hts _ q_486) dX2_isOf_142 ?_
          refine lv_aload_n hx hb dX2_isOf_145 rfl (lv_at hl 1 rfl) ?_
          refine xg_X2_37 C hM hk_7 dX2_isOf_146 ?_
          refine lv_i2l (v := ((xi σ 21 p1).toInt64)) hx hb dX2_isOf_149 rfl ?_
          refine lv_lload hx hb dX2_isOf_150 (lv_at hl 4 rfl) ?_
          refine lv_lmul hx hb dX2_isOf_152 ?_
          refine lv_lload hx hb dX2_isOf_153 (lv_at hl 5 rfl) ?_
          refine lv_iload_n hx hb dX2_isOf_155 rfl (lv_at hl 3 rfl) ?_
          refine lv_i2l (v := p3.toInt64) hx hb dX2_isOf_156 rfl ?_
          refine lv_lmul hx hb dX2_isOf_157 ?_
          refine lv_ladd hx hb dX2_isOf_158 ?_
          refine lv_lmul hx hb dX2_isOf_159 ?_
          refine lv_lload hx hb dX2_isOf_160 (lv_at hl 4 rfl) ?_
          have ok_10 := And.left hok
          have hok := And.right hok
          refine cc_S (av := [.long (100 * ((((xi σ 21 p1).toInt64) * v7_91) + (v13_91 * p3.toInt64))), .long v7_91]) C (k_J9_floorDiv_f86c9 l D a (100 * ((((xi σ 21 p1).toInt64) * v7_91) + (v13_91 * p3.toInt64))) v7_91 ok_10) cw_X2_42 (okR_of hRf hRl (Nat.le_of_ble_eq_true rfl) (Nat.le_of_ble_eq_true rfl)) rfl rfl hl.1 (Nat.le_of_ble_eq_true rfl) (Nat.zero_le _) (Nat.zero_le _) dX2_isOf_162 ?_
          refine xp_X2_51 C hM hk_9 dX2_isOf_165 (fun H locs hM => ?_)
          refine lv_iconst (v := 1) hx hb dX2_isOf_168 (by decide) ?_
          exact ret _ _ _ _ _ _ hM dX2_isOf_169 (by unfold zb; decide) hf
        · have hf := hf.trans (if_neg c_6)
          have hok := oif_neg hok c_6
          refine lv_iconst (v := 0) hx hb dX2_isOf_112 (by decide) ?_
          exact ret _ _ _ _ _ _ hM dX2_isOf_113 (by unfold zb; decide) hf
  have J_41 : ∀ (v7_41 : Int64) (v9_41 : Int64) (v11_41 : Int64), (f_X2_isOf σ q0 p1 p2 p3 p4 p5 p6) = f_X2_isOf_41 σ q0 p1 p2 p3 p4 p5 p6 v7_41 v9_41 v11_41 → of_X2_isOf_41 σ q0 p1 p2 p3 p4 p5 p6 v7_41 v9_41 v11_41 → ∀ (ls : Array Slot), lv_has ls 17 [(0, .ref q0), (1, .ref p1), (2, .int p2), (3, .int p3), (5, .int p5), (6, .int p6), (7, .long v7_41), (9, .long v9_41), (11, .long v11_41)] → W p l e R s m args below meth c s.heap [] 0 0 Q (F0 m 41 ls []) := by
    intro v7_41 v9_41 v11_41 hf hok ls hl
    refine lv_lload hx hb dX2_isOf_41 (lv_at hl 7 rfl) ?_
    refine lv_iload hx hb dX2_isOf_43 (lv_at hl 5 rfl) ?_
    refine lv_i2l (v := p6.toInt64) hx hb dX2_isOf_45 rfl ?_
    refine lv_lmul hx hb dX2_isOf_46 ?_
    refine lv_lload hx hb dX2_isOf_47 (lv_at hl 8 rfl) ?_
    refine lv_iload hx hb dX2_isOf_49 (lv_at hl 4 rfl) ?_
    refine lv_i2l (v := p5.toInt64) hx hb dX2_isOf_51 rfl ?_
    refine lv_lmul hx hb dX2_isOf_52 ?_
    refine lv_lsub hx hb dX2_isOf_53 ?_
    refine lv_lstore (lv' := [(13, .long ((v9_41 * p6.toInt64) - (v11_41 * p5.toInt64))), (0, .ref q0), (1, .ref p1), (2, .int p2), (3, .int p3), (5, .int p5), (6, .int p6), (7, .long v7_41), (9, .long v9_41), (11, .long v11_41)]) hx hb dX2_isOf_54 hl (by decide) rfl (fun ls hl => ?_)
    refine lv_lload hx hb dX2_isOf_56 (lv_at hl 8 rfl) ?_
    refine lv_iload_n hx hb dX2_isOf_58 rfl (lv_at hl 4 rfl) ?_
    refine lv_i2l (v := p3.toInt64) hx hb dX2_isOf_59 rfl ?_
    refine lv_lmul hx hb dX2_isOf_60 ?_
    refine lv_lload hx hb dX2_isOf_61 (lv_at hl 9 rfl) ?_
    refine lv_iload_n hx hb dX2_isOf_63 rfl (lv_at hl 3 rfl) ?_
    refine lv_i2l (v := p2.toInt64) hx hb dX2_isOf_64 rfl ?_
    refine lv_lmul hx hb dX2_isOf_65 ?_
    refine lv_lsub hx hb dX2_isOf_66 ?_
    refine lv_lstore (lv' := [(15, .long ((v9_41 * p3.toInt64) - (v11_41 * p2.toInt64))), (13, .long ((v9_41 * p6.toInt64) - (v11_41 * p5.toInt64))), (0, .ref q0), (1, .ref p1), (2, .int p2), (3, .int p3), (5, .int p5), (6, .int p6), (7, .long v7_41), (9, .long v9_41), (11, .long v11_41)]) hx hb dX2_isOf_67 hl (by decide) rfl (fun ls hl => ?_)
    refine lv_lload hx hb dX2_isOf_69 (lv_at hl 8 rfl) ?_
    refine lv_lconst (v := 0) hx hb dX2_isOf_71 (by decide) ?_
    refine W.lcmp hx hb dX2_isOf_72 ?_
    refine lv_if_ge (tgt := 91) hx hb dX2_isOf_73 (by decide) (fun c_3 => ?_) (fun c_3 => ?_)
    · have hf := hf.trans (if_pos c_3)
      have hok := oif_pos hok c_3
      exact J_91 v7_41 ((v9_41 * p6.toInt64) - (v11_41 * p5.toInt64)) ((v9_41 * p3.toInt64) - (v11_41 * p2.toInt64)) hf hok ls (lv_sub hl [2, 3, 4, 5, 8, 1, 0] rfl)
    · have hf := hf.trans (if_neg c_3)
      have hok := oif_neg hok c_3
      refine lv_lload hx hb dX2_isOf_76 (lv_at hl 8 rfl) ?_
      refine lv_lneg hx hb dX2_isOf_78 ?_
      refine lv_lstore (lv' := [(7, .long (-v7_41)), (15, .long ((v9_41 * p3.toInt64) - (v11_41 * p2.toInt64))), (13, .long ((v9_41 * p6.toInt64) - (v11_41 * p5.toInt64))), (0, .ref q0), (1, .ref p1), (2, .int p2), (3, .int p3), (5, .int p5), (6, .int p6), (9, .long v9_41), (11, .long v11_41)]) hx hb dX2_isOf_79 hl (by decide) rfl (fun ls hl => ?_)
      refine lv_lload hx hb dX2_isOf_81 (lv_at hl 2 rfl) ?_
      refine lv_lneg hx hb dX2_isOf_83 ?_
      refine lv_lstore (lv' := [(13, .long (-((v9_41 * p6.toInt64) - (v11_41 * p5.toInt64)))), (7, .long (-v7_41)), (15, .long ((v9_41 * p3.toInt64) - (v11_41 * p2.toInt64))), (0, .ref q0), (1, .ref p1), (2, .int p2), (3, .int p3), (5, .int p5), (6, .int p6), (9, .long v9_41), (11, .long v11_41)]) hx hb dX2_isOf_84 hl (by decide) rfl (fun ls hl => ?_)
      refine lv_lload hx hb dX2_isOf_86 (lv_at hl 2 rfl) ?_
      refine lv_lneg hx hb dX2_isOf_88 ?_
      refine lv_lstore (lv' := [(15, .long (-((v9_41 * p3.toInt64) - (v11_41 * p2.toInt64)))), (13, .long (-((v9_41 * p6.toInt64) - (v11_41 * p5.toInt64)))), (7, .long (-v7_41)), (0, .ref q0), (1, .ref p1), (2, .int p2), (3, .int p3), (5, .int p5), (6, .int p6), (9, .long v9_41), (11, .long v11_41)]) hx hb dX2_isOf_89 hl (by decide) rfl (fun ls hl => ?_)
      exact J_91 (-v7_41) (-((v9_41 * p6.toInt64) - (v11_41 * p5.toInt64))) (-((v9_41 * p3.toInt64) - (v11_41 * p2.toInt64))) hf hok ls (lv_sub hl [3, 4, 5, 6, 2, 1, 0] rfl)
  refine lv_iload_n hx hb dX2_isOf_0 rfl (lv_at hl 2 rfl) ?_
  refine lv_i2l (v := p2.toInt64) hx hb dX2_isOf_1 rfl ?_
  refine lv_iload hx hb dX2_isOf_2 (lv_at hl 6 rfl) ?_
  refine lv_i2l (v := p6.toInt64) hx hb dX2_isOf_4 rfl ?_
  refine lv_lmul hx hb dX2_isOf_5 ?_
  refine lv_iload_n hx hb dX2_isOf_6 rfl (lv_at hl 3 rfl) ?_
  refine lv_i2l (v := p3.toInt64) hx hb dX2_isOf_7 rfl ?_
  refine lv_iload hx hb dX2_isOf_8 (lv_at hl 5 rfl) ?_
  refine lv_i2l (v := p5.toInt64) hx hb dX2_isOf_10 rfl ?_
  refine lv_lmul hx hb dX2_isOf_11 ?_
  refine lv_lsub hx hb dX2_isOf_12 ?_
  refine lv_lstore (lv' := [(7, .long ((p2.toInt64 * p6.toInt64) - (p3.toInt64 * p5.toInt64))), (0, .ref q0), (1, .ref p1), (2, .int p2), (3, .int p3), (4, .ref p4), (5, .int p5), (6, .int p6)]) hx hb dX2_isOf_13 hl (by decide) rfl (fun ls hl => ?_)
  refine lv_aload hx hb dX2_isOf_15 (lv_at hl 5 rfl) ?_
  have hk_1 := And.left hok
  have hok := And.right hok
  refine xg_X2_32 C hM hk_1 dX2_isOf_17 ?_
  refine lv_aload_n hx hb dX2_isOf_20 rfl (lv_at hl 2 rfl) ?_
  have hk_2 := And.left hok
  have hok := And.right hok
  refine xg_X2_32 C hM hk_2 dX2_isOf_21 ?_
  refine lv_isub hx hb dX2_isOf_24 ?_
  refine lv_i2l (v := (((xi σ 20 p4) - (xi σ 20 p1)).toInt64)) hx hb dX2_isOf_25 rfl ?_
  refine lv_lstore (lv' := [(9, .long (((xi σ 20 p4) - (xi σ 20 p1)).toInt64)), (7, .long ((p2.toInt64 * p6.toInt64) - (p3.toInt64 * p5.toInt64))), (0, .ref q0), (1, .ref p1), (2, .int p2), (3, .int p3), (4, .ref p4), (5, .int p5), (6, .int p6)]) hx hb dX2_isOf_26 hl (by decide) rfl (fun ls hl => ?_)
  refine lv_aload hx hb dX2_isOf_28 (lv_at hl 6 rfl) ?_
  refine xg_X2_37 C hM hk_1 dX2_isOf_30 ?_
  refine lv_aload_n hx hb dX2_isOf_33 rfl (lv_at hl 3 rfl) ?_
  refine xg_X2_37 C hM hk_2 dX2_isOf_34 ?_
  refine lv_isub hx hb dX2_isOf_37 ?_
  refine lv_i2l (v := (((xi σ 21 p4) - (xi σ 21 p1)).toInt64)) hx hb dX2_isOf_38 rfl ?_
  refine lv_lstore (lv' := [(11, .long (((xi σ 21 p4) - (xi σ 21 p1)).toInt64)), (9, .long (((xi σ 20 p4) - (xi σ 20 p1)).toInt64)), (7, .long ((p2.toInt64 * p6.toInt64) - (p3.toInt64 * p5.toInt64))), (0, .ref q0), (1, .ref p1), (2, .int p2), (3, .int p3), (4, .ref p4), (5, .int p5), (6, .int p6)]) hx hb dX2_isOf_39 hl (by decide) rfl (fun ls hl => ?_)
  exact J_41 ((p2.toInt64 * p6.toInt64) - (p3.toInt64 * p5.toInt64)) (((xi σ 20 p4) - (xi σ 20 p1)).toInt64) (((xi σ 21 p4) - (xi σ 21 p1)).toInt64) hf hok ls (lv_sub hl [3, 4, 5, 6, 8, 9, 2, 1, 0] rfl)
def f_X2_isOfBegins (σ : XS) (q0 : Nat) (p1 : Nat) (p2 : Nat) : Int32 × XS := ((f_X2_isOf σ q0 (xr σ 140 p1) (xi σ 145 p1) (xi σ 146 p1) (xr σ 140 p2) (xi σ 145 p2) (xi σ 146 p2)).1, (f_X2_isOf σ q0 (xr σ 140 p1) (xi σ 145 p1) (xi σ 146 p1) (xr σ 140 p2) (xi σ 145 p2) (xi σ 146 p2)).2)
def of_X2_isOfBegins (σ : XS) (q0 : Nat) (p1 : Nat) (p2 : Nat) : Prop := ((xk σ p1) = 7 ∧ ((xk σ (xr σ 140 p1)) = 1 ∧ ((xk σ p2) = 7 ∧ ((xk σ (xr σ 140 p2)) = 1 ∧ (of_X2_isOf σ q0 (xr σ 140 p1) (xi σ 145 p1) (xi σ 146 p1) (xr σ 140 p2) (xi σ 145 p2) (xi σ 146 p2) ∧ ((xk σ q0) = 3 ∧ (zb (f_X2_isOf σ q0 (xr σ 140 p1) (xi σ 145 p1) (xi σ 146 p1) (xr σ 140 p2) (xi σ 145 p2) (xi σ 146 p2)).1 ∧ True)))))))
set_option maxHeartbeats 4000000 in
set_option maxRecDepth 100000 in
theorem k_X2_isOfBegins (l : Launch) (D : va_G) (a : Nat → ClassId) (x : Nat) (e0 : Nat) (A : Nat → Prop) (σ : XS) (q0 : Nat) (p1 : Nat) (p2 : Nat) (hok : of_X2_isOfBegins σ q0 p1 p2) : KX l D a x e0 A yX2_isOfBegins cX2_isOfBegins 3 ((some .boolean)) 2 61 0 0 [.ref q0, .ref p1, .ref p2] σ (fun v => some (.int v)) (fun _ => f_X2_isOfBegins σ q0 p1 p2) := by
  refine goXz (by decide +kernel) (Nat.le_of_ble_eq_true rfl) ?_
  intro p e s m args below meth c ls R Q nq hRf hRl hRc hRs hnq C hE hM hl ret
  have hl : lv_has ls 3 [(0, .ref q0), (1, .ref p1), (2, .ref p2)] := hl
  have hx := C.1.1
  have hb := C.1.2.1
  have hts := C.1.2.2.2.2
  have hown := C.1.2.2.2.1
  have hf : (f_X2_isOfBegins σ q0 p1 p2) = (f_X2_isOfBegins σ q0 p1 p2) := rfl
  refine lv_aload_n hx hb dX2_isOfBegins_0 rfl (lv_at hl 0 rfl) ?_
  refine lv_aload_n hx hb dX2_isOfBegins_1 rfl (lv_at hl 1 rfl) ?_
  have hk_1 := And.left hok
  have hok := And.right hok
  refine xg_X2_7 C hM hk_1 dX2_isOfBegins_2 ?_
  have hk_2 := And.left hok
  have hok := And.right hok
  refine toRef (xne0 hM.1 hk_2 (by decide)) ?_
  refine lv_aload_n hx hb dX2_isOfBegins_5 rfl (lv_at hl 1 rfl) ?_
  refine xg_X2_13 C hM hk_1 dX2_isOfBegins_6 ?_
  refine lv_aload_n hx hb dX2_isOfBegins_9 rfl (lv_at hl 1 rfl) ?_
  refine xg_X2_17 C hM hk_1 dX2_isOfBegins_10 ?_
  refine lv_aload_n hx hb dX2_isOfBegins_13 rfl (lv_at hl 2 rfl) ?_
  have hk_3 := And.left hok
  have hok := And.right hok
  refine xg_X2_7 C hM hk_3 dX2_isOfBegins_14 ?_
  have hk_4 := And.left hok
  have hok := And.right hok
  refine toRef (xne0 hM.1 hk_4 (by decide)) ?_
  refine lv_aload_n hx hb dX2_isOfBegins_17 rfl (lv_at hl 2 rfl) ?_
  refine xg_X2_13 C hM hk_3 dX2_isOfBegins_18 ?_
  refine lv_aload_n hx hb dX2_isOfBegins_21 rfl (lv_at hl 2 rfl) ?_
  refine xg_X2_17 C hM hk_3 dX2_isOfBegins_22 ?_
  have ok_5 := And.left hok
  have hok := And.right hok
  have hk_6 := And.left hok
  have hok := And.right hok
  refine cc_XM (av := [.ref (xr σ 140 p1), .int (xi σ 145 p1), .int (xi σ 146 p1), .ref (xr σ 140 p2), .int (xi σ 145 p2), .int (xi σ 146 p2)]) (b := q0) (N := 0) (Or.inr (fun _ => rfl)) C hE hM (k_X2_isOf l D a x e0 A σ q0 (xr σ 140 p1) (xi σ 145 p1) (xi σ 146 p1) (xr σ 140 p2) (xi σ 145 p2) (xi σ 146 p2) ok_5) cw_X2_20 (okR_of hRf hRl (Nat.le_of_ble_eq_true rfl) (Nat.le_of_ble_eq_true rfl)) (xr_at (K := 3) C hM hk_6 (by decide) rfl) rfl rfl hl.1 (Nat.le_of_ble_eq_true rfl) (Nat.zero_le _) (Nat.zero_le _) dX2_isOfBegins_25 (fun H locs hM => ?_)
  have ok_7 := And.left hok
  have hok := And.right hok
  exact ret _ _ _ _ _ _ hM dX2_isOfBegins_28 ok_7 hf
def f_X2_isOfEnds (σ : XS) (q0 : Nat) (p1 : Nat) (p2 : Nat) : Int32 × XS := ((f_X2_isOf σ q0 (xr σ 140 p1) (xi σ 147 p1) (xi σ 148 p1) (xr σ 140 p2) (xi σ 147 p2) (xi σ 148 p2)).1, (f_X2_isOf σ q0 (xr σ 140 p1) (xi σ 147 p1) (xi σ 148 p1) (xr σ 140 p2) (xi σ 147 p2) (xi σ 148 p2)).2)
def of_X2_isOfEnds (σ : XS) (q0 : Nat) (p1 : Nat) (p2 : Nat) : Prop := ((xk σ p1) = 7 ∧ ((xk σ (xr σ 140 p1)) = 1 ∧ ((xk σ p2) = 7 ∧ ((xk σ (xr σ 140 p2)) = 1 ∧ (of_X2_isOf σ q0 (xr σ 140 p1) (xi σ 147 p1) (xi σ 148 p1) (xr σ 140 p2) (xi σ 147 p2) (xi σ 148 p2) ∧ ((xk σ q0) = 3 ∧ (zb (f_X2_isOf σ q0 (xr σ 140 p1) (xi σ 147 p1) (xi σ 148 p1) (xr σ 140 p2) (xi σ 147 p2) (xi σ 148 p2)).1 ∧ True)))))))
set_option maxHeartbeats 4000000 in
set_option maxRecDepth 100000 in
theorem k_X2_isOfEnds (l : Launch) (D : va_G) (a : Nat → ClassId) (x : Nat) (e0 : Nat) (A : Nat → Prop) (σ : XS) (q0 : Nat) (p1 : Nat) (p2 : Nat) (hok : of_X2_isOfEnds σ q0 p1 p2) : KX l D a x e0 A yX2_isOfEnds cX2_isOfEnds 3 ((some .boolean)) 2 61 0 0 [.ref q0, .ref p1, .ref p2] σ (fun v => some (.int v)) (fun _ => f_X2_isOfEnds σ q0 p1 p2) := by
  refine goXz (by decide +kernel) (Nat.le_of_ble_eq_true rfl) ?_
  intro p e s m args below meth c ls R Q nq hRf hRl hRc hRs hnq C hE hM hl ret
  have hl : lv_has ls 3 [(0, .ref q0), (1, .ref p1), (2, .ref p2)] := hl
  have hx := C.1.1
  have hb := C.1.2.1
  have hts := C.1.2.2.2.2
  have hown := C.1.2.2.2.1
  have hf : (f_X2_isOfEnds σ q0 p1 p2) = (f_X2_isOfEnds σ q0 p1 p2) := rfl
  refine lv_aload_n hx hb dX2_isOfEnds_0 rfl (lv_at hl 0 rfl) ?_
  refine lv_aload_n hx hb dX2_isOfEnds_1 rfl (lv_at hl 1 rfl) ?_
  have hk_1 := And.left hok
  have hok := And.right hok
  refine xg_X2_7 C hM hk_1 dX2_isOfEnds_2 ?_
  have hk_2 := And.left hok
  have hok := And.right hok
  refine toRef (xne0 hM.1 hk_2 (by decide)) ?_
  refine lv_aload_n hx hb dX2_isOfEnds_5 rfl (lv_at hl 1 rfl) ?_
  refine xg_X2_26 C hM hk_1 dX2_isOfEnds_6 ?_
  refine lv_aload_n hx hb dX2_isOfEnds_9 rfl (lv_at hl 1 rfl) ?_
  refine xg_X2_29 C hM hk_1 dX2_isOfEnds_10 ?_
  refine lv_aload_n hx hb dX2_isOfEnds_13 rfl (lv_at hl 2 rfl) ?_
  have hk_3 := And.left hok
  have hok := And.right hok
  refine xg_X2_7 C hM hk_3 dX2_isOfEnds_14 ?_
  have hk_4 := And.left hok
  have hok := And.right hok
  refine toRef (xne0 hM.1 hk_4 (by decide)) ?_
  refine lv_aload_n hx hb dX2_isOfEnds_17 rfl (lv_at hl 2 rfl) ?_
  refine xg_X2_26 C hM hk_3 dX2_isOfEnds_18 ?_
  refine lv_aload_n hx hb dX2_isOfEnds_21 rfl (lv_at hl 2 rfl) ?_
  refine xg_X2_29 C hM hk_3 dX2_isOfEnds_22 ?_
  have ok_5 := And.left hok
  have hok := And.right hok
  have hk_6 := And.left hok
  have hok := And.right hok
  refine cc_XM (av := [.ref (xr σ 140 p1), .int (xi σ 147 p1), .int (xi σ 148 p1), .ref (xr σ 140 p2), .int (xi σ 147 p2), .int (xi σ 148 p2)]) (b := q0) (N := 0) (Or.inr (fun _ => rfl)) C hE hM (k_X2_isOf l D a x e0 A σ q0 (xr σ 140 p1) (xi σ 147 p1) (xi σ 148 p1) (xr σ 140 p2) (xi σ 147 p2) (xi σ 148 p2) ok_5) cw_X2_20 (okR_of hRf hRl (Nat.le_of_ble_eq_true rfl) (Nat.le_of_ble_eq_true rfl)) (xr_at (K := 3) C hM hk_6 (by decide) rfl) rfl rfl hl.1 (Nat.le_of_ble_eq_true rfl) (Nat.zero_le _) (Nat.zero_le _) dX2_isOfEnds_25 (fun H locs hM => ?_)
  have ok_7 := And.left hok
  have hok := And.right hok
  exact ret _ _ _ _ _ _ hM dX2_isOfEnds_28 ok_7 hf
def f_X3_scatter (σ : XS) (q0 : Nat) (p1 : Nat) (p2 : Int32) (p3 : Int32) : Unit × XS := ((), (xI (xI (xJ (xJ σ 80 q0 (xj σ 108 p1)) 81 q0 (xj σ 109 p1)) 82 q0 p2) 83 q0 p3))
def of_X3_scatter (σ : XS) (q0 : Nat) (p1 : Nat) (p2 : Int32) (p3 : Int32) : Prop := ((xk σ p1) = 5 ∧ ((xk σ q0) = 4 ∧ True))
set_option maxHeartbeats 4000000 in
set_option maxRecDepth 100000 in
theorem k_X3_scatter (l : Launch) (D : va_G) (a : Nat → ClassId) (x : Nat) (e0 : Nat) (A : Nat → Prop) (σ : XS) (q0 : Nat) (p1 : Nat) (p2 : Int32) (p3 : Int32) (hok : of_X3_scatter σ q0 p1 p2 p3) : KX l D a x e0 A yX3_scatter cX3_scatter 4 none 0 0 0 0 [.ref q0, .ref p1, .int p2, .int p3] σ (fun _ => none) (fun _ => f_X3_scatter σ q0 p1 p2 p3) := by
  refine goXv (by decide +kernel) (Nat.le_of_ble_eq_true rfl) ?_
  intro p e s m args below meth c ls R Q nq hRf hRl hRc hRs hnq C hE hM hl hmn ret
  have hl : lv_has ls 4 [(0, .ref q0), (1, .ref p1), (2, .int p2), (3, .int p3)] := hl
  have hx := C.1.1
  have hb := C.1.2.1
  have hts := C.1.2.2.2.2
  have hown := C.1.2.2.2.1
  have hf : (f_X3_scatter σ q0 p1 p2 p3) = (f_X3_scatter σ q0 p1 p2 p3) := rfl
  refine lv_aload_n hx hb dX3_scatter_0 rfl (lv_at hl 0 rfl) ?_
  refine lv_aload_n hx hb dX3_scatter_1 rfl (lv_at hl 1 rfl) ?_
  have hk_1 := And.left hok
  have hok := And.right hok
  refine xg_X3_9 C hM hk_1 dX3_scatter_2 ?_
  have hk_2 := And.left hok
  have hok := And.right hok
  refine xp_X3_15 C hM hk_2 dX3_scatter_5 (fun H locs hM => ?_)
  refine lv_aload_n hx hb dX3_scatter_8 rfl (lv_at hl 0 rfl) ?_
  refine lv_aload_n hx hb dX3_scatter_9 rfl (lv_at hl 1 rfl) ?_
  refine xg_X3_18 C hM hk_1 dX3_scatter_10 ?_
  refine xp_X3_21 C hM hk_2 dX3_scatter_13 (fun H locs hM => ?_)
  refine lv_aload_n hx hb dX3_scatter_16 rfl (lv_at hl 0 rfl) ?_
  refine lv_iload_n hx hb dX3_scatter_17 rfl (lv_at hl 2 rfl) ?_
  refine xp_X3_22 C hM hk_2 dX3_scatter_18 (fun H locs hM => ?_)
  refine lv_aload_n hx hb dX3_scatter_21 rfl (lv_at hl 0 rfl) ?_
  refine lv_iload_n hx hb dX3_scatter_22 rfl (lv_at hl 3 rfl) ?_
  refine xp_X3_26 C hM hk_2 dX3_scatter_23 (fun H locs hM => ?_)
  exact ret _ _ _ _ _ hM dX3_scatter_26 hf
def f_X3_pieceX (σ : XS) (q0 : Nat) (p1 : Int32) : Int64 := (f_J9_floorDiv_f86c9 ((xj σ 80 q0) + ((((xi σ 82 q0) * 20) * (6 - p1)).toInt64)) 100)
def of_X3_pieceX (σ : XS) (q0 : Nat) (p1 : Int32) : Prop := ((xk σ q0) = 4 ∧ (of_J9_floorDiv_f86c9 ((xj σ 80 q0) + ((((xi σ 82 q0) * 20) * (6 - p1)).toInt64)) 100 ∧ True))
set_option maxHeartbeats 4000000 in
set_option maxRecDepth 100000 in
theorem k_X3_pieceX (l : Launch) (D : va_G) (a : Nat → ClassId) (x : Nat) (e0 : Nat) (A : Nat → Prop) (σ : XS) (q0 : Nat) (p1 : Int32) (hok : of_X3_pieceX σ q0 p1) : K0 l yX3_pieceX cX3_pieceX 2 ((some .long)) 1 25 [.ref q0, .int p1] (BX D a x e0 A σ) (.long (f_X3_pieceX σ q0 p1)) := by
  refine go0l (D := D) (a := a) (by decide +kernel) (fun _ h => h.1.1) (Nat.le_of_ble_eq_true rfl) ?_
  intro p e s m args below meth c ls R Q hRf hRl C hl hB
  obtain ⟨hB, ret⟩ := hB
  have hE := hB.1
  have hM : HX D a x e0 A σ s.heap s.heap [] := ⟨hB.2, va_S.rf⟩
  have hl : lv_has ls 2 [(0, .ref q0), (1, .int p1)] := hl
  have hx := C.1.1
  have hb := C.1.2.1
  have hts := C.1.2.2.2.2
  have hown := C.1.2.2.2.1
  have hf : (f_X3_pieceX σ q0 p1) = (f_X3_pieceX σ q0 p1) := rfl
  refine lv_aload_n hx hb dX3_pieceX_0 rfl (lv_at hl 0 rfl) ?_
  have hk_1 := And.left hok
  have hok := And.right hok
  refine xg_X3_15 C hM hk_1 dX3_pieceX_1 ?_
  refine lv_aload_n hx hb dX3_pieceX_4 rfl (lv_at hl 0 rfl) ?_
  refine xg_X3_22 C hM hk_1 dX3_pieceX_5 ?_
  refine lv_bipush (v := 20) hx hb dX3_pieceX_8 (by decide) ?_
  refine lv_imul hx hb dX3_pieceX_10 ?_
  refine lv_bipush (v := 6) hx hb dX3_pieceX_11 (by decide) ?_
  refine lv_iload_n hx hb dX3_pieceX_13 rfl (lv_at hl 1 rfl) ?_
  refine lv_isub hx hb dX3_pieceX_14 ?_
  refine lv_imul hx hb dX3_pieceX_15 ?_
  refine lv_i2l (v := ((((xi σ 82 q0) * 20) * (6 - p1)).toInt64)) hx hb dX3_pieceX_16 rfl ?_
  refine lv_ladd hx hb dX3_pieceX_17 ?_
  refine lv_ldc2 (v := 100) hx hb hown (hts _ q_714) dX3_pieceX_18 ?_
  have ok_2 := And.left hok
  have hok := And.right hok
  refine cc_S (av := [.long ((xj σ 80 q0) + ((((xi σ 82 q0) * 20) * (6 - p1)).toInt64)), .long 100]) C (k_J9_floorDiv_f86c9 l D a ((xj σ 80 q0) + ((((xi σ 82 q0) * 20) * (6 - p1)).toInt64)) 100 ok_2) cw_X3_31 (okR_of hRf hRl (Nat.le_of_ble_eq_true rfl) (Nat.le_of_ble_eq_true rfl)) rfl rfl hl.1 (Nat.le_of_ble_eq_true rfl) (Nat.zero_le _) (Nat.zero_le _) dX3_pieceX_21 ?_
  exact ret _ _ _ dX3_pieceX_24 hf
def f_X3_pieceY (σ : XS) (q0 : Nat) (p1 : Int32) : Int64 := (f_J9_floorDiv_f86c9 ((xj σ 81 q0) + ((((xi σ 83 q0) * 20) * (6 - p1)).toInt64)) 100)
def of_X3_pieceY (σ : XS) (q0 : Nat) (p1 : Int32) : Prop := ((xk σ q0) = 4 ∧ (of_J9_floorDiv_f86c9 ((xj σ 81 q0) + ((((xi σ 83 q0) * 20) * (6 - p1)).toInt64)) 100 ∧ True))
set_option maxHeartbeats 4000000 in
set_option maxRecDepth 100000 in
theorem k_X3_pieceY (l : Launch) (D : va_G) (a : Nat → ClassId) (x : Nat) (e0 : Nat) (A : Nat → Prop) (σ : XS) (q0 : Nat) (p1 : Int32) (hok : of_X3_pieceY σ q0 p1) : K0 l yX3_pieceY cX3_pieceY 2 ((some .long)) 1 25 [.ref q0, .int p1] (BX D a x e0 A σ) (.long (f_X3_pieceY σ q0 p1)) := by
  refine go0l (D := D) (a := a) (by decide +kernel) (fun _ h => h.1.1) (Nat.le_of_ble_eq_true rfl) ?_
  intro p e s m args below meth c ls R Q hRf hRl C hl hB
  obtain ⟨hB, ret⟩ := hB
  have hE := hB.1
  have hM : HX D a x e0 A σ s.heap s.heap [] := ⟨hB.2, va_S.rf⟩
  have hl : lv_has ls 2 [(0, .ref q0), (1, .int p1)] := hl
  have hx := C.1.1
  have hb := C.1.2.1
  have hts := C.1.2.2.2.2
  have hown := C.1.2.2.2.1
  have hf : (f_X3_pieceY σ q0 p1) = (f_X3_pieceY σ q0 p1) := rfl
  refine lv_aload_n hx hb dX3_pieceY_0 rfl (lv_at hl 0 rfl) ?_
  have hk_1 := And.left hok
  have hok := And.right hok
  refine xg_X3_21 C hM hk_1 dX3_pieceY_1 ?_
  refine lv_aload_n hx hb dX3_pieceY_4 rfl (lv_at hl 0 rfl) ?_
  refine xg_X3_26 C hM hk_1 dX3_pieceY_5 ?_
  refine lv_bipush (v := 20) hx hb dX3_pieceY_8 (by decide) ?_
  refine lv_imul hx hb dX3_pieceY_10 ?_
  refine lv_bipush (v := 6) hx hb dX3_pieceY_11 (by decide) ?_
  refine lv_iload_n hx hb dX3_pieceY_13 rfl (lv_at hl 1 rfl) ?_
  refine lv_isub hx hb dX3_pieceY_14 ?_
  refine lv_imul hx hb dX3_pieceY_15 ?_
  refine lv_i2l (v := ((((xi σ 83 q0) * 20) * (6 - p1)).toInt64)) hx hb dX3_pieceY_16 rfl ?_
  refine lv_ladd hx hb dX3_pieceY_17 ?_
  refine lv_ldc2 (v := 100) hx hb hown (hts _ q_714) dX3_pieceY_18 ?_
  have ok_2 := And.left hok
  have hok := And.right hok
  refine cc_S (av := [.long ((xj σ 81 q0) + ((((xi σ 83 q0) * 20) * (6 - p1)).toInt64)), .long 100]) C (k_J9_floorDiv_f86c9 l D a ((xj σ 81 q0) + ((((xi σ 83 q0) * 20) * (6 - p1)).toInt64)) 100 ok_2) cw_X3_31 (okR_of hRf hRl (Nat.le_of_ble_eq_true rfl) (Nat.le_of_ble_eq_true rfl)) rfl rfl hl.1 (Nat.le_of_ble_eq_true rfl) (Nat.zero_le _) (Nat.zero_le _) dX3_pieceY_21 ?_
  exact ret _ _ _ dX3_pieceY_24 hf
def f_J9_abs_067f4 (p1 : Int64) : Int64 := (if 0 ≤ (lg_cmp p1 0) then p1 else (-p1))
set_option maxHeartbeats 4000000 in
set_option maxRecDepth 100000 in
theorem k_J9_abs_067f4 (l : Launch) (D : va_G) (a : Nat → ClassId) (p1 : Int64) : K0 l yJ9_abs_067f4 cJ9_abs_067f4 2 ((some .long)) 0 0 [.long p1] (BK D a) (.long (f_J9_abs_067f4 p1)) := by
  refine go0lF (D := D) (a := a) (mPlain rfl (by decide +kernel)) (fun _ h => h) (Nat.le_of_ble_eq_true rfl) ?_
  intro p e s m args below meth c ls R Q hRf hRl C hl hB
  obtain ⟨-, ret⟩ := hB
  have hl : lv_has ls 2 [(0, .long p1)] := hl
  have hx := C.1.1
  have hb := C.1.2.1
  have hts := C.1.2.2.2.2
  have hown := C.1.2.2.2.1
  have hf : (f_J9_abs_067f4 p1) = (f_J9_abs_067f4 p1) := rfl
  refine lv_lload_n hx hb dJ9_abs_067f4_0 rfl (lv_at hl 0 rfl) ?_
  refine lv_lconst (v := 0) hx hb dJ9_abs_067f4_1 (by decide) ?_
  refine W.lcmp hx hb dJ9_abs_067f4_2 ?_
  refine lv_if_ge (tgt := 11) hx hb dJ9_abs_067f4_3 (by decide) (fun c_1 => ?_) (fun c_1 => ?_)
  · have hf := hf.trans (if_pos c_1)
    refine lv_lload_n hx hb dJ9_abs_067f4_11 rfl (lv_at hl 0 rfl) ?_
    exact ret _ _ _ dJ9_abs_067f4_12 hf
  · have hf := hf.trans (if_neg c_1)
    refine lv_lload_n hx hb dJ9_abs_067f4_6 rfl (lv_at hl 0 rfl) ?_
    refine lv_lneg hx hb dJ9_abs_067f4_7 ?_
    refine lv_goto (tgt := 12) hx hb dJ9_abs_067f4_8 (by decide) ?_
    exact ret _ _ _ dJ9_abs_067f4_12 hf
def f_J9_max_f86c9 (p1 : Int64) (p2 : Int64) : Int64 := (if (lg_cmp p1 p2) < 0 then p2 else p1)
set_option maxHeartbeats 4000000 in
set_option maxRecDepth 100000 in
theorem k_J9_max_f86c9 (l : Launch) (D : va_G) (a : Nat → ClassId) (p1 : Int64) (p2 : Int64) : K0 l yJ9_max_f86c9 cJ9_max_f86c9 4 ((some .long)) 0 0 [.long p1, .long p2] (BK D a) (.long (f_J9_max_f86c9 p1 p2)) := by
  refine go0lF (D := D) (a := a) (mPlain rfl (by decide +kernel)) (fun _ h => h) (Nat.le_of_ble_eq_true rfl) ?_
  intro p e s m args below meth c ls R Q hRf hRl C hl hB
  obtain ⟨-, ret⟩ := hB
  have hl : lv_has ls 4 [(0, .long p1), (2, .long p2)] := hl
  have hx := C.1.1
  have hb := C.1.2.1
  have hts := C.1.2.2.2.2
  have hown := C.1.2.2.2.1
  have hf : (f_J9_max_f86c9 p1 p2) = (f_J9_max_f86c9 p1 p2) := rfl
  refine lv_lload_n hx hb dJ9_max_f86c9_0 rfl (lv_at hl 0 rfl) ?_
  refine lv_lload_n hx hb dJ9_max_f86c9_1 rfl (lv_at hl 1 rfl) ?_
  refine W.lcmp hx hb dJ9_max_f86c9_2 ?_
  refine lv_if_lt (tgt := 10) hx hb dJ9_max_f86c9_3 (by decide) (fun c_1 => ?_) (fun c_1 => ?_)
  · have hf := hf.trans (if_pos c_1)
    refine lv_lload_n hx hb dJ9_max_f86c9_10 rfl (lv_at hl 1 rfl) ?_
    exact ret _ _ _ dJ9_max_f86c9_11 hf
  · have hf := hf.trans (if_neg c_1)
    refine lv_lload_n hx hb dJ9_max_f86c9_6 rfl (lv_at hl 0 rfl) ?_
    refine lv_goto (tgt := 11) hx hb dJ9_max_f86c9_7 (by decide) ?_
    exact ret _ _ _ dJ9_max_f86c9_11 hf
def f_X3_weight_l5_40 (q0 : Nat) (p1 : Int32) (p2 : Int32) (σ : XS) (w3_5 : Int64) (w5_5 : Int32) (v3_40 : Int64) (v5_40 : Int32) (v6_40 : Int64) : Bool × (Int64 × Int32) := (true, ((v3_40 + (f_J9_max_f86c9 0 (8 - v6_40))), (v5_40 + 1)))
def b_X3_weight_5 (q0 : Nat) (p1 : Int32) (p2 : Int32) (σ : XS) (w3_5 : Int64) (w5_5 : Int32) : Bool × (Int64 × Int32) := (if 5 < w5_5 then (false, (w3_5, w5_5)) else (f_X3_weight_l5_40 q0 p1 p2 σ w3_5 w5_5 w3_5 w5_5 (f_J9_max_f86c9 (f_J9_abs_067f4 (p1.toInt64 - (f_X3_pieceX σ q0 w5_5))) (f_J9_abs_067f4 (p2.toInt64 - (f_X3_pieceY σ q0 w5_5))))))
def ob_X3_weight_5 (q0 : Nat) (p1 : Int32) (p2 : Int32) (σ : XS) (w3_5 : Int64) (w5_5 : Int32) : Prop := (oif (5 < w5_5) True (of_X3_pieceX σ q0 w5_5 ∧ ((xk σ q0) = 4 ∧ (of_X3_pieceY σ q0 w5_5 ∧ True))))
def s_X3_weight_5 (q0 : Nat) (p1 : Int32) (p2 : Int32) (σ : XS) (v : Int64 × Int32) : Bool × (Int64 × Int32) := b_X3_weight_5 q0 p1 p2 σ v.1 v.2
def os_X3_weight_5 (q0 : Nat) (p1 : Int32) (p2 : Int32) (σ : XS) (v : Int64 × Int32) : Prop := ob_X3_weight_5 q0 p1 p2 σ v.1 v.2
def f_X3_weight_59 (σ : XS) (q0 : Nat) (p1 : Int32) (p2 : Int32) (v3_59 : Int64) : Int64 := (1000000 * v3_59)
def f_X3_weight_5 (σ : XS) (q0 : Nat) (p1 : Int32) (p2 : Int32) (v3_5 : Int64) (v5_5 : Int32) : Int64 := (f_X3_weight_59 σ q0 p1 p2 ((itr (s_X3_weight_5 q0 p1 p2 σ) FU (v3_5, v5_5)).1))
def of_X3_weight_5 (σ : XS) (q0 : Nat) (p1 : Int32) (p2 : Int32) (v3_5 : Int64) (v5_5 : Int32) : Prop := (ito (s_X3_weight_5 q0 p1 p2 σ) (os_X3_weight_5 q0 p1 p2 σ) FU (v3_5, v5_5) ∧ True)
def f_X3_weight (σ : XS) (q0 : Nat) (p1 : Int32) (p2 : Int32) : Int64 := (f_X3_weight_5 σ q0 p1 p2 0 1)
def of_X3_weight (σ : XS) (q0 : Nat) (p1 : Int32) (p2 : Int32) : Prop := (of_X3_weight_5 σ q0 p1 p2 0 1)
set_option maxHeartbeats 4000000 in
set_option maxRecDepth 100000 in
theorem k_X3_weight (l : Launch) (D : va_G) (a : Nat → ClassId) (x : Nat) (e0 : Nat) (A : Nat → Prop) (σ : XS) (q0 : Nat) (p1 : Int32) (p2 : Int32) (hok : of_X3_weight σ q0 p1 p2) : K0 l yX3_weight cX3_weight 8 ((some .long)) 2 46 [.ref q0, .int p1, .int p2] (BX D a x e0 A σ) (.long (f_X3_weight σ q0 p1 p2)) := by
  refine go0l (D := D) (a := a) (by decide +kernel) (fun _ h => h.1.1) (Nat.le_of_ble_eq_true rfl) ?_
  intro p e s m args below meth c ls R Q hRf hRl C hl hB
  obtain ⟨hB, ret⟩ := hB
  have hE := hB.1
  have hM : HX D a x e0 A σ s.heap s.heap [] := ⟨hB.2, va_S.rf⟩
  have hl : lv_has ls 8 [(0, .ref q0), (1, .int p1), (2, .int p2)] := hl
  have hx := C.1.1
  have hb := C.1.2.1
  have hts := C.1.2.2.2.2
  have hown := C.1.2.2.2.1
  have hf : (f_X3_weight σ q0 p1 p2) = (f_X3_weight σ q0 p1 p2) := rfl
  have J_59 : ∀ (v3_59 : Int64), (f_X3_weight σ q0 p1 p2) = f_X3_weight_59 σ q0 p1 p2 v3_59 → ∀ (ls : Array Slot), lv_has ls 8 [(3, .long v3_59)] → W p l e R s m args below meth c s.heap [] 0 0 Q (F0 m 59 ls []) := by
    intro v3_59 hf ls hl
    refine lv_ldc2 (v := 1000000) hx hb hown (hts _ q_725) dX3_weight_59 ?_
    refine lv_lload_n hx hb dX3_weight_62 rfl (lv_at hl 0 rfl) ?_
    refine lv_lmul hx hb dX3_weight_63 ?_
    exact ret _ _ _ dX3_weight_64 hf
  have J_5 : ∀ (v3_5 : Int64) (v5_5 : Int32), (f_X3_weight σ q0 p1 p2) = f_X3_weight_5 σ q0 p1 p2 v3_5 v5_5 → of_X3_weight_5 σ q0 p1 p2 v3_5 v5_5 → ∀ (ls : Array Slot), lv_has ls 8 [(0, .ref q0), (1, .int p1), (2, .int p2), (3, .long v3_5), (5, .int v5_5)] → W p l e R s m args below meth c s.heap [] 0 0 Q (F0 m 5 ls []) := by
    intro v3_5 v5_5 hf hok ls hl
    refine itr_W (f := (s_X3_weight_5 q0 p1 p2 σ)) (o := (os_X3_weight_5 q0 p1 p2 σ)) (fun (v : Int64 × Int32) => ∀ (ls : Array Slot), lv_has ls 8 [(0, .ref q0), (1, .int p1), (2, .int p2), (3, .long v.1), (5, .int v.2)] → W p l e R s m args below meth c s.heap [] 0 0 Q (F0 m 5 ls [])) (fun (v : Int64 × Int32) => ∀ (ls : Array Slot), lv_has ls 8 [(3, .long v.1)] → W p l e R s m args below meth c s.heap [] 0 0 Q (F0 m 59 ls [])) ?_ FU (v3_5, v5_5) (And.left hok) ?_ ls (lv_sub hl [0, 1, 2, 3, 4] rfl)
    · intro v hov kc ke
      obtain ⟨w3_5, w5_5⟩ := v
      have hok : ob_X3_weight_5 q0 p1 p2 σ w3_5 w5_5 := hov
      change ∀ v', (b_X3_weight_5 q0 p1 p2 σ w3_5 w5_5) = (true, v') → _ at kc
      change ∀ v', (b_X3_weight_5 q0 p1 p2 σ w3_5 w5_5) = (false, v') → _ at ke
      have hf : (b_X3_weight_5 q0 p1 p2 σ w3_5 w5_5) = (b_X3_weight_5 q0 p1 p2 σ w3_5 w5_5) := rfl
      intro ls hl
      have J_l5_40 : ∀ (v3_40 : Int64) (v5_40 : Int32) (v6_40 : Int64), (b_X3_weight_5 q0 p1 p2 σ w3_5 w5_5) = f_X3_weight_l5_40 q0 p1 p2 σ w3_5 w5_5 v3_40 v5_40 v6_40 → ∀ (ls : Array Slot), lv_has ls 8 [(0, .ref q0), (1, .int p1), (2, .int p2), (3, .long v3_40), (5, .int v5_40), (6, .long v6_40)] → W p l e R s m args below meth c s.heap [] 0 0 Q (F0 m 40 ls []) := by
        intro v3_40 v5_40 v6_40 hf ls hl
        refine lv_lload_n hx hb dX3_weight_40 rfl (lv_at hl 3 rfl) ?_
        refine lv_lconst (v := 0) hx hb dX3_weight_41 (by decide) ?_
        refine lv_ldc2 (v := 8) hx hb hown (hts _ q_724) dX3_weight_42 ?_
        refine lv_lload hx hb dX3_weight_45 (lv_at hl 5 rfl) ?_
        refine lv_lsub hx hb dX3_weight_47 ?_
        refine cc_S (av := [.long 0, .long (8 - v6_40)]) C (k_J9_max_f86c9 l D a 0 (8 - v6_40)) cw_X3_48 (okR_of hRf hRl (Nat.le_of_ble_eq_true rfl) (Nat.le_of_ble_eq_true rfl)) rfl rfl hl.1 (Nat.le_of_ble_eq_true rfl) (Nat.zero_le _) (Nat.zero_le _) dX3_weight_48 ?_
        refine lv_ladd hx hb dX3_weight_51 ?_
        refine lv_lstore_n (lv' := [(3, .long (v3_40 + (f_J9_max_f86c9 0 (8 - v6_40)))), (0, .ref q0), (1, .int p1), (2, .int p2), (5, .int v5_40), (6, .long v6_40)]) hx hb dX3_weight_52 rfl hl (by decide) rfl (fun ls hl => ?_)
        refine lv_iinc (v := (v5_40 + 1)) (lv' := [(5, .int (v5_40 + 1)), (3, .long (v3_40 + (f_J9_max_f86c9 0 (8 - v6_40)))), (0, .ref q0), (1, .int p1), (2, .int p2), (6, .long v6_40)]) hx hb dX3_weight_53 hl (k := 4) rfl rfl (by decide) rfl (fun ls hl => ?_)
        refine lv_goto (tgt := 5) hx hb dX3_weight_56 (by decide) ?_
        exact kc ((v3_40 + (f_J9_max_f86c9 0 (8 - v6_40))), (v5_40 + 1)) hf ls (lv_sub hl [2, 3, 4, 1, 0] rfl)
      refine lv_iload hx hb dX3_weight_5 (lv_at hl 4 rfl) ?_
      refine lv_iconst (v := 5) hx hb dX3_weight_7 (by decide) ?_
      refine lv_icmp_gt (tgt := 59) hx hb dX3_weight_8 (by decide) (fun c_1 => ?_) (fun c_1 => ?_)
      · have hf := hf.trans (if_pos c_1)
        have hok := oif_pos hok c_1
        exact ke (w3_5, w5_5) hf ls (lv_sub hl [3] rfl)
      · have hf := hf.trans (if_neg c_1)
        have hok := oif_neg hok c_1
        refine lv_iload_n hx hb dX3_weight_11 rfl (lv_at hl 1 rfl) ?_
        refine lv_i2l (v := p1.toInt64) hx hb dX3_weight_12 rfl ?_
        refine lv_aload_n hx hb dX3_weight_13 rfl (lv_at hl 0 rfl) ?_
        refine lv_iload hx hb dX3_weight_14 (lv_at hl 4 rfl) ?_
        have ok_2 := And.left hok
        have hok := And.right hok
        have hk_3 := And.left hok
        have hok := And.right hok
        refine cc_X (av := [.int w5_5]) (b := q0) C hE hM (k_X3_pieceX l D a x e0 A σ q0 w5_5 ok_2) cw_X3_37 (okR_of hRf hRl (Nat.le_of_ble_eq_true rfl) (Nat.le_of_ble_eq_true rfl)) (xr_at (K := 4) C hM hk_3 (by decide) rfl) rfl rfl hl.1 (Nat.le_of_ble_eq_true rfl) (Nat.zero_le _) (Nat.zero_le _) dX3_weight_16 ?_
        refine lv_lsub hx hb dX3_weight_19 ?_
        refine cc_S (av := [.long (p1.toInt64 - (f_X3_pieceX σ q0 w5_5))]) C (k_J9_abs_067f4 l D a (p1.toInt64 - (f_X3_pieceX σ q0 w5_5))) cw_X3_41 (okR_of hRf hRl (Nat.le_of_ble_eq_true rfl) (Nat.le_of_ble_eq_true rfl)) rfl rfl hl.1 (Nat.le_of_ble_eq_true rfl) (Nat.zero_le _) (Nat.zero_le _) dX3_weight_20 ?_
        refine lv_iload_n hx hb dX3_weight_23 rfl (lv_at hl 2 rfl) ?_
        refine lv_i2l (v := p2.toInt64) hx hb dX3_weight_24 rfl ?_
        refine lv_aload_n hx hb dX3_weight_25 rfl (lv_at hl 0 rfl) ?_
        refine lv_iload hx hb dX3_weight_26 (lv_at hl 4 rfl) ?_
        have ok_4 := And.left hok
        have hok := And.right hok
        refine cc_X (av := [.int w5_5]) (b := q0) C hE hM (k_X3_pieceY l D a x e0 A σ q0 w5_5 ok_4) cw_X3_45 (okR_of hRf hRl (Nat.le_of_ble_eq_true rfl) (Nat.le_of_ble_eq_true rfl)) (xr_at (K := 4) C hM hk_3 (by decide) rfl) rfl rfl hl.1 (Nat.le_of_ble_eq_true rfl) (Nat.zero_le _) (Nat.zero_le _) dX3_weight_28 ?_
        refine lv_lsub hx hb dX3_weight_31 ?_
        refine cc_S (av := [.long (p2.toInt64 - (f_X3_pieceY σ q0 w5_5))]) C (k_J9_abs_067f4 l D a (p2.toInt64 - (f_X3_pieceY σ q0 w5_5))) cw_X3_41 (okR_of hRf hRl (Nat.le_of_ble_eq_true rfl) (Nat.le_of_ble_eq_true rfl)) rfl rfl hl.1 (Nat.le_of_ble_eq_true rfl) (Nat.zero_le _) (Nat.zero_le _) dX3_weight_32 ?_
        refine cc_S (av := [.long (f_J9_abs_067f4 (p1.toInt64 - (f_X3_pieceX σ q0 w5_5))), .long (f_J9_abs_067f4 (p2.toInt64 - (f_X3_pieceY σ q0 w5_5)))]) C (k_J9_max_f86c9 l D a (f_J9_abs_067f4 (p1.toInt64 - (f_X3_pieceX σ q0 w5_5))) (f_J9_abs_067f4 (p2.toInt64 - (f_X3_pieceY σ q0 w5_5)))) cw_X3_48 (okR_of hRf hRl (Nat.le_of_ble_eq_true rfl) (Nat.le_of_ble_eq_true rfl)) rfl rfl hl.1 (Nat.le_of_ble_eq_true rfl) (Nat.zero_le _) (Nat.zero_le _) dX3_weight_35 ?_
        refine lv_lstore (lv' := [(6, .long (f_J9_max_f86c9 (f_J9_abs_067f4 (p1.toInt64 - (f_X3_pieceX σ q0 w5_5))) (f_J9_abs_067f4 (p2.toInt64 - (f_X3_pieceY σ q0 w5_5))))), (0, .ref q0), (1, .int p1), (2, .int p2), (3, .long w3_5), (5, .int w5_5)]) hx hb dX3_weight_38 hl (by decide) rfl (fun ls hl => ?_)
        exact J_l5_40 w3_5 w5_5 (f_J9_max_f86c9 (f_J9_abs_067f4 (p1.toInt64 - (f_X3_pieceX σ q0 w5_5))) (f_J9_abs_067f4 (p2.toInt64 - (f_X3_pieceY σ q0 w5_5)))) hf ls (lv_sub hl [1, 2, 3, 4, 5, 0] rfl)
    · have hok := And.right hok
      intro ls hl
      exact J_59 ((itr (s_X3_weight_5 q0 p1 p2 σ) FU (v3_5, v5_5)).1) hf ls (lv_sub hl [0] rfl)
  refine lv_lconst (v := 0) hx hb dX3_weight_0 (by decide) ?_
  refine lv_lstore_n (lv' := [(3, .long 0), (0, .ref q0), (1, .int p1), (2, .int p2)]) hx hb dX3_weight_1 rfl hl (by decide) rfl (fun ls hl => ?_)
  refine lv_iconst (v := 1) hx hb dX3_weight_2 (by decide) ?_
  refine lv_istore (lv' := [(5, .int 1), (3, .long 0), (0, .ref q0), (1, .int p1), (2, .int p2)]) hx hb dX3_weight_3 hl (by decide) rfl (fun ls hl => ?_)
  exact J_5 0 1 hf hok ls (lv_sub hl [2, 3, 4, 1, 0] rfl)
def f_J9_min_f86c9 (p1 : Int64) (p2 : Int64) : Int64 := (if 0 < (lg_cmp p1 p2) then p2 else p1)
set_option maxHeartbeats 4000000 in
set_option maxRecDepth 100000 in
theorem k_J9_min_f86c9 (l : Launch) (D : va_G) (a : Nat → ClassId) (p1 : Int64) (p2 : Int64) : K0 l yJ9_min_f86c9 cJ9_min_f86c9 4 ((some .long)) 0 0 [.long p1, .long p2] (BK D a) (.long (f_J9_min_f86c9 p1 p2)) := by
  refine go0lF (D := D) (a := a) (mPlain rfl (by decide +kernel)) (fun _ h => h) (Nat.le_of_ble_eq_true rfl) ?_
  intro p e s m args below meth c ls R Q hRf hRl C hl hB
  obtain ⟨-, ret⟩ := hB
  have hl : lv_has ls 4 [(0, .long p1), (2, .long p2)] := hl
  have hx := C.1.1
  have hb := C.1.2.1
  have hts := C.1.2.2.2.2
  have hown := C.1.2.2.2.1
  have hf : (f_J9_min_f86c9 p1 p2) = (f_J9_min_f86c9 p1 p2) := rfl
  refine lv_lload_n hx hb dJ9_min_f86c9_0 rfl (lv_at hl 0 rfl) ?_
  refine lv_lload_n hx hb dJ9_min_f86c9_1 rfl (lv_at hl 1 rfl) ?_
  refine W.lcmp hx hb dJ9_min_f86c9_2 ?_
  refine lv_if_gt (tgt := 10) hx hb dJ9_min_f86c9_3 (by decide) (fun c_1 => ?_) (fun c_1 => ?_)
  · have hf := hf.trans (if_pos c_1)
    refine lv_lload_n hx hb dJ9_min_f86c9_10 rfl (lv_at hl 1 rfl) ?_
    exact ret _ _ _ dJ9_min_f86c9_11 hf
  · have hf := hf.trans (if_neg c_1)
    refine lv_lload_n hx hb dJ9_min_f86c9_6 rfl (lv_at hl 0 rfl) ?_
    refine lv_goto (tgt := 11) hx hb dJ9_min_f86c9_7 (by decide) ?_
    exact ret _ _ _ dJ9_min_f86c9_11 hf
def f_X3_cellsWithin (p1 : Int64) (p2 : Int32) : Int64 := (f_J9_max_f86c9 0 (((f_J9_min_f86c9 99 (p1 + p2.toInt64)) - (f_J9_max_f86c9 0 (p1 - p2.toInt64))) + 1))
set_option maxHeartbeats 4000000 in
set_option maxRecDepth 100000 in
theorem k_X3_cellsWithin (l : Launch) (D : va_G) (a : Nat → ClassId) (p1 : Int64) (p2 : Int32) : K0 l yX3_cellsWithin cX3_cellsWithin 7 ((some .long)) 1 23 [.long p1, .int p2] (BK D a) (.long (f_X3_cellsWithin p1 p2)) := by
  refine go0l (D := D) (a := a) (by decide +kernel) (fun _ h => h) (Nat.le_of_ble_eq_true rfl) ?_
  intro p e s m args below meth c ls R Q hRf hRl C hl hB
  obtain ⟨-, ret⟩ := hB
  have hl : lv_has ls 7 [(0, .long p1), (2, .int p2)] := hl
  have hx := C.1.1
  have hb := C.1.2.1
  have hts := C.1.2.2.2.2
  have hown := C.1.2.2.2.1
  have hf : (f_X3_cellsWithin p1 p2) = (f_X3_cellsWithin p1 p2) := rfl
  refine lv_lconst (v := 0) hx hb dX3_cellsWithin_0 (by decide) ?_
  refine lv_lload_n hx hb dX3_cellsWithin_1 rfl (lv_at hl 0 rfl) ?_
  refine lv_iload_n hx hb dX3_cellsWithin_2 rfl (lv_at hl 1 rfl) ?_
  refine lv_i2l (v := p2.toInt64) hx hb dX3_cellsWithin_3 rfl ?_
  refine lv_lsub hx hb dX3_cellsWithin_4 ?_
  refine cc_S (av := [.long 0, .long (p1 - p2.toInt64)]) C (k_J9_max_f86c9 l D a 0 (p1 - p2.toInt64)) cw_X3_48 (okR_of hRf hRl (Nat.le_of_ble_eq_true rfl) (Nat.le_of_ble_eq_true rfl)) rfl rfl hl.1 (Nat.le_of_ble_eq_true rfl) (Nat.zero_le _) (Nat.zero_le _) dX3_cellsWithin_5 ?_
  refine lv_lstore_n (lv' := [(3, .long (f_J9_max_f86c9 0 (p1 - p2.toInt64))), (0, .long p1), (2, .int p2)]) hx hb dX3_cellsWithin_8 rfl hl (by decide) rfl (fun ls hl => ?_)
  refine lv_ldc2 (v := 99) hx hb hown (hts _ q_743) dX3_cellsWithin_9 ?_
  refine lv_lload_n hx hb dX3_cellsWithin_12 rfl (lv_at hl 1 rfl) ?_
  refine lv_iload_n hx hb dX3_cellsWithin_13 rfl (lv_at hl 2 rfl) ?_
  refine lv_i2l (v := p2.toInt64) hx hb dX3_cellsWithin_14 rfl ?_
  refine lv_ladd hx hb dX3_cellsWithin_15 ?_
  refine cc_S (av := [.long 99, .long (p1 + p2.toInt64)]) C (k_J9_min_f86c9 l D a 99 (p1 + p2.toInt64)) cw_X3_61 (okR_of hRf hRl (Nat.le_of_ble_eq_true rfl) (Nat.le_of_ble_eq_true rfl)) rfl rfl hl.1 (Nat.le_of_ble_eq_true rfl) (Nat.zero_le _) (Nat.zero_le _) dX3_cellsWithin_16 ?_
  refine lv_lstore (lv' := [(5, .long (f_J9_min_f86c9 99 (p1 + p2.toInt64))), (3, .long (f_J9_max_f86c9 0 (p1 - p2.toInt64))), (0, .long p1), (2, .int p2)]) hx hb dX3_cellsWithin_19 hl (by decide) rfl (fun ls hl => ?_)
  refine lv_lconst (v := 0) hx hb dX3_cellsWithin_21 (by decide) ?_
  refine lv_lload hx hb dX3_cellsWithin_22 (lv_at hl 0 rfl) ?_
  refine lv_lload_n hx hb dX3_cellsWithin_24 rfl (lv_at hl 1 rfl) ?_
  refine lv_lsub hx hb dX3_cellsWithin_25 ?_
  refine lv_lconst (v := 1) hx hb dX3_cellsWithin_26 (by decide) ?_
  refine lv_ladd hx hb dX3_cellsWithin_27 ?_
  refine cc_S (av := [.long 0, .long (((f_J9_min_f86c9 99 (p1 + p2.toInt64)) - (f_J9_max_f86c9 0 (p1 - p2.toInt64))) + 1)]) C (k_J9_max_f86c9 l D a 0 (((f_J9_min_f86c9 99 (p1 + p2.toInt64)) - (f_J9_max_f86c9 0 (p1 - p2.toInt64))) + 1)) cw_X3_48 (okR_of hRf hRl (Nat.le_of_ble_eq_true rfl) (Nat.le_of_ble_eq_true rfl)) rfl rfl hl.1 (Nat.le_of_ble_eq_true rfl) (Nat.zero_le _) (Nat.zero_le _) dX3_cellsWithin_28 ?_
  exact ret _ _ _ dX3_cellsWithin_31 hf
def b_X3_weightOfGround_26 (q0 : Nat) (v3_26 : Int32) (v4_26 : Int64) (v6_26 : Int64) (σ : XS) (w1_26 : Int64) (w8_26 : Int32) : Bool × (Int64 × Int32) := (if 8 ≤ w8_26 then (false, (w1_26, w8_26)) else (true, ((w1_26 + ((f_X3_cellsWithin v4_26 w8_26) * (f_X3_cellsWithin v6_26 w8_26))), (w8_26 + 1))))
def ob_X3_weightOfGround_26 (q0 : Nat) (v3_26 : Int32) (v4_26 : Int64) (v6_26 : Int64) (σ : XS) (w1_26 : Int64) (w8_26 : Int32) : Prop := True
def s_X3_weightOfGround_26 (q0 : Nat) (v3_26 : Int32) (v4_26 : Int64) (v6_26 : Int64) (σ : XS) (v : Int64 × Int32) : Bool × (Int64 × Int32) := b_X3_weightOfGround_26 q0 v3_26 v4_26 v6_26 σ v.1 v.2
def os_X3_weightOfGround_26 (q0 : Nat) (v3_26 : Int32) (v4_26 : Int64) (v6_26 : Int64) (σ : XS) (v : Int64 × Int32) : Prop := ob_X3_weightOfGround_26 q0 v3_26 v4_26 v6_26 σ v.1 v.2
def f_X3_weightOfGround_l4_57 (q0 : Nat) (σ : XS) (w1_4 : Int64) (w3_4 : Int32) (v1_57 : Int64) (v3_57 : Int32) : Bool × (Int64 × Int32) := (true, (v1_57, (v3_57 + 1)))
def f_X3_weightOfGround_l4_26 (q0 : Nat) (σ : XS) (w1_4 : Int64) (w3_4 : Int32) (v1_26 : Int64) (v3_26 : Int32) (v4_26 : Int64) (v6_26 : Int64) (v8_26 : Int32) : Bool × (Int64 × Int32) := (f_X3_weightOfGround_l4_57 q0 σ w1_4 w3_4 ((itr (s_X3_weightOfGround_26 q0 v3_26 v4_26 v6_26 σ) FU (v1_26, v8_26)).1) v3_26)
def of_X3_weightOfGround_l4_26 (q0 : Nat) (σ : XS) (w1_4 : Int64) (w3_4 : Int32) (v1_26 : Int64) (v3_26 : Int32) (v4_26 : Int64) (v6_26 : Int64) (v8_26 : Int32) : Prop := (ito (s_X3_weightOfGround_26 q0 v3_26 v4_26 v6_26 σ) (os_X3_weightOfGround_26 q0 v3_26 v4_26 v6_26 σ) FU (v1_26, v8_26) ∧ True)
def b_X3_weightOfGround_4 (q0 : Nat) (σ : XS) (w1_4 : Int64) (w3_4 : Int32) : Bool × (Int64 × Int32) := (if 5 < w3_4 then (false, (w1_4, w3_4)) else (f_X3_weightOfGround_l4_26 q0 σ w1_4 w3_4 w1_4 w3_4 (f_X3_pieceX σ q0 w3_4) (f_X3_pieceY σ q0 w3_4) 0))
def ob_X3_weightOfGround_4 (q0 : Nat) (σ : XS) (w1_4 : Int64) (w3_4 : Int32) : Prop := (oif (5 < w3_4) True (of_X3_pieceX σ q0 w3_4 ∧ ((xk σ q0) = 4 ∧ (of_X3_pieceY σ q0 w3_4 ∧ (of_X3_weightOfGround_l4_26 q0 σ w1_4 w3_4 w1_4 w3_4 (f_X3_pieceX σ q0 w3_4) (f_X3_pieceY σ q0 w3_4) 0)))))
def s_X3_weightOfGround_4 (q0 : Nat) (σ : XS) (v : Int64 × Int32) : Bool × (Int64 × Int32) := b_X3_weightOfGround_4 q0 σ v.1 v.2
def os_X3_weightOfGround_4 (q0 : Nat) (σ : XS) (v : Int64 × Int32) : Prop := ob_X3_weightOfGround_4 q0 σ v.1 v.2
def f_X3_weightOfGround_63 (σ : XS) (q0 : Nat) (v1_63 : Int64) : Int64 := (1000000 * v1_63)
def f_X3_weightOfGround_4 (σ : XS) (q0 : Nat) (v1_4 : Int64) (v3_4 : Int32) : Int64 := (f_X3_weightOfGround_63 σ q0 ((itr (s_X3_weightOfGround_4 q0 σ) FU (v1_4, v3_4)).1))
def of_X3_weightOfGround_4 (σ : XS) (q0 : Nat) (v1_4 : Int64) (v3_4 : Int32) : Prop := (ito (s_X3_weightOfGround_4 q0 σ) (os_X3_weightOfGround_4 q0 σ) FU (v1_4, v3_4) ∧ True)
def f_X3_weightOfGround (σ : XS) (q0 : Nat) : Int64 := (f_X3_weightOfGround_4 σ q0 0 1)
def of_X3_weightOfGround (σ : XS) (q0 : Nat) : Prop := (of_X3_weightOfGround_4 σ q0 0 1)
set_option maxHeartbeats 4000000 in
set_option maxRecDepth 100000 in
theorem k_X3_weightOfGround (l : Launch) (D : va_G) (a : Nat → ClassId) (x : Nat) (e0 : Nat) (A : Nat → Prop) (σ : XS) (q0 : Nat) (hok : of_X3_weightOfGround σ q0) : K0 l yX3_weightOfGround cX3_weightOfGround 9 ((some .long)) 2 49 [.ref q0] (BX D a x e0 A σ) (.long (f_X3_weightOfGround σ q0)) := by
  refine go0l (D := D) (a := a) (by decide +kernel) (fun _ h => h.1.1) (Nat.le_of_ble_eq_true rfl) ?_
  intro p e s m args below meth c ls R Q hRf hRl C hl hB
  obtain ⟨hB, ret⟩ := hB
  have hE := hB.1
  have hM : HX D a x e0 A σ s.heap s.heap [] := ⟨hB.2, va_S.rf⟩
  have hl : lv_has ls 9 [(0, .ref q0)] := hl
  have hx := C.1.1
  have hb := C.1.2.1
  have hts := C.1.2.2.2.2
  have hown := C.1.2.2.2.1
  have hf : (f_X3_weightOfGround σ q0) = (f_X3_weightOfGround σ q0) := rfl
  have J_63 : ∀ (v1_63 : Int64), (f_X3_weightOfGround σ q0) = f_X3_weightOfGround_63 σ q0 v1_63 → ∀ (ls : Array Slot), lv_has ls 9 [(1, .long v1_63)] → W p l e R s m args below meth c s.heap [] 0 0 Q (F0 m 63 ls []) := by
    intro v1_63 hf ls hl
    refine lv_ldc2 (v := 1000000) hx hb hown (hts _ q_725) dX3_weightOfGround_63 ?_
    refine lv_lload_n hx hb dX3_weightOfGround_66 rfl (lv_at hl 0 rfl) ?_
    refine lv_lmul hx hb dX3_weightOfGround_67 ?_
    exact ret _ _ _ dX3_weightOfGround_68 hf
  have J_4 : ∀ (v1_4 : Int64) (v3_4 : Int32), (f_X3_weightOfGround σ q0) = f_X3_weightOfGround_4 σ q0 v1_4 v3_4 → of_X3_weightOfGround_4 σ q0 v1_4 v3_4 → ∀ (ls : Array Slot), lv_has ls 9 [(0, .ref q0), (1, .long v1_4), (3, .int v3_4)] → W p l e R s m args below meth c s.heap [] 0 0 Q (F0 m 4 ls []) := by
    intro v1_4 v3_4 hf hok ls hl
    refine itr_W (f := (s_X3_weightOfGround_4 q0 σ)) (o := (os_X3_weightOfGround_4 q0 σ)) (fun (v : Int64 × Int32) => ∀ (ls : Array Slot), lv_has ls 9 [(0, .ref q0), (1, .long v.1), (3, .int v.2)] → W p l e R s m args below meth c s.heap [] 0 0 Q (F0 m 4 ls [])) (fun (v : Int64 × Int32) => ∀ (ls : Array Slot), lv_has ls 9 [(1, .long v.1)] → W p l e R s m args below meth c s.heap [] 0 0 Q (F0 m 63 ls [])) ?_ FU (v1_4, v3_4) (And.left hok) ?_ ls (lv_sub hl [0, 1, 2] rfl)
    · intro v hov kc ke
      obtain ⟨w1_4, w3_4⟩ := v
      have hok : ob_X3_weightOfGround_4 q0 σ w1_4 w3_4 := hov
      change ∀ v', (b_X3_weightOfGround_4 q0 σ w1_4 w3_4) = (true, v') → _ at kc
      change ∀ v', (b_X3_weightOfGround_4 q0 σ w1_4 w3_4) = (false, v') → _ at ke
      have hf : (b_X3_weightOfGround_4 q0 σ w1_4 w3_4) = (b_X3_weightOfGround_4 q0 σ w1_4 w3_4) := rfl
      intro ls hl
      have J_l4_57 : ∀ (v1_57 : Int64) (v3_57 : Int32), (b_X3_weightOfGround_4 q0 σ w1_4 w3_4) = f_X3_weightOfGround_l4_57 q0 σ w1_4 w3_4 v1_57 v3_57 → ∀ (ls : Array Slot), lv_has ls 9 [(0, .ref q0), (1, .long v1_57), (3, .int v3_57)] → W p l e R s m args below meth c s.heap [] 0 0 Q (F0 m 57 ls []) := by
        intro v1_57 v3_57 hf ls hl
        refine lv_iinc (v := (v3_57 + 1)) (lv' := [(3, .int (v3_57 + 1)), (0, .ref q0), (1, .long v1_57)]) hx hb dX3_weightOfGround_57 hl (k := 2) rfl rfl (by decide) rfl (fun ls hl => ?_)
        refine lv_goto (tgt := 4) hx hb dX3_weightOfGround_60 (by decide) ?_
        exact kc (v1_57, (v3_57 + 1)) hf ls (lv_sub hl [1, 2, 0] rfl)
      have J_l4_26 : ∀ (v1_26 : Int64) (v3_26 : Int32) (v4_26 : Int64) (v6_26 : Int64) (v8_26 : Int32), (b_X3_weightOfGround_4 q0 σ w1_4 w3_4) = f_X3_weightOfGround_l4_26 q0 σ w1_4 w3_4 v1_26 v3_26 v4_26 v6_26 v8_26 → of_X3_weightOfGround_l4_26 q0 σ w1_4 w3_4 v1_26 v3_26 v4_26 v6_26 v8_26 → ∀ (ls : Array Slot), lv_has ls 9 [(0, .ref q0), (1, .long v1_26), (3, .int v3_26), (4, .long v4_26), (6, .long v6_26), (8, .int v8_26)] → W p l e R s m args below meth c s.heap [] 0 0 Q (F0 m 26 ls []) := by
        intro v1_26 v3_26 v4_26 v6_26 v8_26 hf hok ls hl
        refine itr_W (f := (s_X3_weightOfGround_26 q0 v3_26 v4_26 v6_26 σ)) (o := (os_X3_weightOfGround_26 q0 v3_26 v4_26 v6_26 σ)) (fun (v : Int64 × Int32) => ∀ (ls : Array Slot), lv_has ls 9 [(0, .ref q0), (1, .long v.1), (3, .int v3_26), (4, .long v4_26), (6, .long v6_26), (8, .int v.2)] → W p l e R s m args below meth c s.heap [] 0 0 Q (F0 m 26 ls [])) (fun (v : Int64 × Int32) => ∀ (ls : Array Slot), lv_has ls 9 [(0, .ref q0), (1, .long v.1), (3, .int v3_26)] → W p l e R s m args below meth c s.heap [] 0 0 Q (F0 m 57 ls [])) ?_ FU (v1_26, v8_26) (And.left hok) ?_ ls (lv_sub hl [0, 1, 2, 3, 4, 5] rfl)
        · intro v hov kc ke
          obtain ⟨w1_26, w8_26⟩ := v
          have hok : ob_X3_weightOfGround_26 q0 v3_26 v4_26 v6_26 σ w1_26 w8_26 := hov
          change ∀ v', (b_X3_weightOfGround_26 q0 v3_26 v4_26 v6_26 σ w1_26 w8_26) = (true, v') → _ at kc
          change ∀ v', (b_X3_weightOfGround_26 q0 v3_26 v4_26 v6_26 σ w1_26 w8_26) = (false, v') → _ at ke
          have hf : (b_X3_weightOfGround_26 q0 v3_26 v4_26 v6_26 σ w1_26 w8_26) = (b_X3_weightOfGround_26 q0 v3_26 v4_26 v6_26 σ w1_26 w8_26) := rfl
          intro ls hl
          refine lv_iload hx hb dX3_weightOfGround_26 (lv_at hl 5 rfl) ?_
          refine lv_bipush (v := 8) hx hb dX3_weightOfGround_28 (by decide) ?_
          refine lv_icmp_ge (tgt := 57) hx hb dX3_weightOfGround_30 (by decide) (fun c_5 => ?_) (fun c_5 => ?_)
          · have hf := hf.trans (if_pos c_5)
            exact ke (w1_26, w8_26) hf ls (lv_sub hl [0, 1, 2] rfl)
          · have hf := hf.trans (if_neg c_5)
            refine lv_lload_n hx hb dX3_weightOfGround_33 rfl (lv_at hl 1 rfl) ?_
            refine lv_lload hx hb dX3_weightOfGround_34 (lv_at hl 3 rfl) ?_
            refine lv_iload hx hb dX3_weightOfGround_36 (lv_at hl 5 rfl) ?_
            refine cc_S (av := [.long v4_26, .int w8_26]) C (k_X3_cellsWithin l D a v4_26 w8_26) cw_X3_55 (okR_of hRf hRl (Nat.le_of_ble_eq_true rfl) (Nat.le_of_ble_eq_true rfl)) rfl rfl hl.1 (Nat.le_of_ble_eq_true rfl) (Nat.zero_le _) (Nat.zero_le _) dX3_weightOfGround_38 ?_
            refine lv_lload hx hb dX3_weightOfGround_41 (lv_at hl 4 rfl) ?_
            refine lv_iload hx hb dX3_weightOfGround_43 (lv_at hl 5 rfl) ?_
            refine cc_S (av := [.long v6_26, .int w8_26]) C (k_X3_cellsWithin l D a v6_26 w8_26) cw_X3_55 (okR_of hRf hRl (Nat.le_of_ble_eq_true rfl) (Nat.le_of_ble_eq_true rfl)) rfl rfl hl.1 (Nat.le_of_ble_eq_true rfl) (Nat.zero_le _) (Nat.zero_le _) dX3_weightOfGround_45 ?_
            refine lv_lmul hx hb dX3_weightOfGround_48 ?_
            refine lv_ladd hx hb dX3_weightOfGround_49 ?_
            refine lv_lstore_n (lv' := [(1, .long (w1_26 + ((f_X3_cellsWithin v4_26 w8_26) * (f_X3_cellsWithin v6_26 w8_26)))), (0, .ref q0), (3, .int v3_26), (4, .long v4_26), (6, .long v6_26), (8, .int w8_26)]) hx hb dX3_weightOfGround_50 rfl hl (by decide) rfl (fun ls hl => ?_)
            refine lv_iinc (v := (w8_26 + 1)) (lv' := [(8, .int (w8_26 + 1)), (1, .long (w1_26 + ((f_X3_cellsWithin v4_26 w8_26) * (f_X3_cellsWithin v6_26 w8_26)))), (0, .ref q0), (3, .int v3_26), (4, .long v4_26), (6, .long v6_26)]) hx hb dX3_weightOfGround_51 hl (k := 5) rfl rfl (by decide) rfl (fun ls hl => ?_)
            refine lv_goto (tgt := 26) hx hb dX3_weightOfGround_54 (by decide) ?_
            exact kc ((w1_26 + ((f_X3_cellsWithin v4_26 w8_26) * (f_X3_cellsWithin v6_26 w8_26))), (w8_26 + 1)) hf ls (lv_sub hl [2, 1, 3, 4, 5, 0] rfl)
        · have hok := And.right hok
          intro ls hl
          exact J_l4_57 ((itr (s_X3_weightOfGround_26 q0 v3_26 v4_26 v6_26 σ) FU (v1_26, v8_26)).1) v3_26 hf ls (lv_sub hl [0, 1, 2] rfl)
      refine lv_iload_n hx hb dX3_weightOfGround_4 rfl (lv_at hl 2 rfl) ?_
      refine lv_iconst (v := 5) hx hb dX3_weightOfGround_5 (by decide) ?_
      refine lv_icmp_gt (tgt := 63) hx hb dX3_weightOfGround_6 (by decide) (fun c_1 => ?_) (fun c_1 => ?_)
      · have hf := hf.trans (if_pos c_1)
        have hok := oif_pos hok c_1
        exact ke (w1_4, w3_4) hf ls (lv_sub hl [1] rfl)
      · have hf := hf.trans (if_neg c_1)
        have hok := oif_neg hok c_1
        refine lv_aload_n hx hb dX3_weightOfGround_9 rfl (lv_at hl 0 rfl) ?_
        refine lv_iload_n hx hb dX3_weightOfGround_10 rfl (lv_at hl 2 rfl) ?_
        have ok_2 := And.left hok
        have hok := And.right hok
        have hk_3 := And.left hok
        have hok := And.right hok
        refine cc_X (av := [.int w3_4]) (b := q0) C hE hM (k_X3_pieceX l D a x e0 A σ q0 w3_4 ok_2) cw_X3_37 (okR_of hRf hRl (Nat.le_of_ble_eq_true rfl) (Nat.le_of_ble_eq_true rfl)) (xr_at (K := 4) C hM hk_3 (by decide) rfl) rfl rfl hl.1 (Nat.le_of_ble_eq_true rfl) (Nat.zero_le _) (Nat.zero_le _) dX3_weightOfGround_11 ?_
        refine lv_lstore (lv' := [(4, .long (f_X3_pieceX σ q0 w3_4)), (0, .ref q0), (1, .long w1_4), (3, .int w3_4)]) hx hb dX3_weightOfGround_14 hl (by decide) rfl (fun ls hl => ?_)
        refine lv_aload_n hx hb dX3_weightOfGround_16 rfl (lv_at hl 1 rfl) ?_
        refine lv_iload_n hx hb dX3_weightOfGround_17 rfl (lv_at hl 3 rfl) ?_
        have ok_4 := And.left hok
        have hok := And.right hok
        refine cc_X (av := [.int w3_4]) (b := q0) C hE hM (k_X3_pieceY l D a x e0 A σ q0 w3_4 ok_4) cw_X3_45 (okR_of hRf hRl (Nat.le_of_ble_eq_true rfl) (Nat.le_of_ble_eq_true rfl)) (xr_at (K := 4) C hM hk_3 (by decide) rfl) rfl rfl hl.1 (Nat.le_of_ble_eq_true rfl) (Nat.zero_le _) (Nat.zero_le _) dX3_weightOfGround_18 ?_
        refine lv_lstore (lv' := [(6, .long (f_X3_pieceY σ q0 w3_4)), (4, .long (f_X3_pieceX σ q0 w3_4)), (0, .ref q0), (1, .long w1_4), (3, .int w3_4)]) hx hb dX3_weightOfGround_21 hl (by decide) rfl (fun ls hl => ?_)
        refine lv_iconst (v := 0) hx hb dX3_weightOfGround_23 (by decide) ?_
        refine lv_istore (lv' := [(8, .int 0), (6, .long (f_X3_pieceY σ q0 w3_4)), (4, .long (f_X3_pieceX σ q0 w3_4)), (0, .ref q0), (1, .long w1_4), (3, .int w3_4)]) hx hb dX3_weightOfGround_24 hl (by decide) rfl (fun ls hl => ?_)
        exact J_l4_26 w1_4 w3_4 (f_X3_pieceX σ q0 w3_4) (f_X3_pieceY σ q0 w3_4) 0 hf hok ls (lv_sub hl [3, 4, 5, 2, 1, 0] rfl)
    · have hok := And.right hok
      intro ls hl
      exact J_63 ((itr (s_X3_weightOfGround_4 q0 σ) FU (v1_4, v3_4)).1) hf ls (lv_sub hl [0] rfl)
  refine lv_lconst (v := 0) hx hb dX3_weightOfGround_0 (by decide) ?_
  refine lv_lstore_n (lv' := [(1, .long 0), (0, .ref q0)]) hx hb dX3_weightOfGround_1 rfl hl (by decide) rfl (fun ls hl => ?_)
  refine lv_iconst (v := 1) hx hb dX3_weightOfGround_2 (by decide) ?_
  refine lv_istore_n (lv' := [(3, .int 1), (1, .long 0), (0, .ref q0)]) hx hb dX3_weightOfGround_3 rfl hl (by decide) rfl (fun ls hl => ?_)
  exact J_4 0 1 hf hok ls (lv_sub hl [2, 1, 0] rfl)
def f_X4_exists (σ : XS) (q0 : Nat) : Int32 := (if (xi σ 101 q0) ≤ 0 then 0 else 1)
def of_X4_exists (σ : XS) (q0 : Nat) : Prop := ((xk σ q0) = 5 ∧ True)
set_option maxHeartbeats 4000000 in
set_option maxRecDepth 100000 in
theorem k_X4_exists (l : Launch) (D : va_G) (a : Nat → ClassId) (x : Nat) (e0 : Nat) (A : Nat → Prop) (σ : XS) (q0 : Nat) (hok : of_X4_exists σ q0) : K0 l yX4_exists cX4_exists 1 ((some .boolean)) 0 0 [.ref q0] (BX D a x e0 A σ) (.int (f_X4_exists σ q0)) := by
  refine go0z (D := D) (a := a) (by decide +kernel) (fun _ h => h.1.1) (Nat.le_of_ble_eq_true rfl) ?_
  intro p e s m args below meth c ls R Q hRf hRl C hl hB
  obtain ⟨hB, ret⟩ := hB
  have hE := hB.1
  have hM : HX D a x e0 A σ s.heap s.heap [] := ⟨hB.2, va_S.rf⟩
  have hl : lv_has ls 1 [(0, .ref q0)] := hl
  have hx := C.1.1
  have hb := C.1.2.1
  have hts := C.1.2.2.2.2
  have hown := C.1.2.2.2.1
  have hf : (f_X4_exists σ q0) = (f_X4_exists σ q0) := rfl
  refine lv_aload_n hx hb dX4_exists_0 rfl (lv_at hl 0 rfl) ?_
  have hk_1 := And.left hok
  have hok := And.right hok
  refine xg_X4_7 C hM hk_1 dX4_exists_1 ?_
  refine lv_if_le (tgt := 11) hx hb dX4_exists_4 (by decide) (fun c_2 => ?_) (fun c_2 => ?_)
  · have hf := hf.trans (if_pos c_2)
    refine lv_iconst (v := 0) hx hb dX4_exists_11 (by decide) ?_
    exact ret _ _ _ dX4_exists_12 (by unfold zb; decide) hf
  · have hf := hf.trans (if_neg c_2)
    refine lv_iconst (v := 1) hx hb dX4_exists_7 (by decide) ?_
    refine lv_goto (tgt := 12) hx hb dX4_exists_8 (by decide) ?_
    exact ret _ _ _ dX4_exists_12 (by unfold zb; decide) hf
def f_X4_clear (σ : XS) (q0 : Nat) : Unit × XS := ((), (xJ (xJ (xJ (xJ (xJ (xJ (xJ (xI (xI σ 101 q0 0) 102 q0 0) 103 q0 0) 104 q0 0) 105 q0 0) 106 q0 0) 107 q0 0) 108 q0 0) 109 q0 0))
def of_X4_clear (σ : XS) (q0 : Nat) : Prop := ((xk σ q0) = 5 ∧ True)
set_option maxHeartbeats 4000000 in
set_option maxRecDepth 100000 in
theorem k_X4_clear (l : Launch) (D : va_G) (a : Nat → ClassId) (x : Nat) (e0 : Nat) (A : Nat → Prop) (σ : XS) (q0 : Nat) (hok : of_X4_clear σ q0) : KX l D a x e0 A yX4_clear cX4_clear 1 none 0 0 0 0 [.ref q0] σ (fun _ => none) (fun _ => f_X4_clear σ q0) := by
  refine goXv (by decide +kernel) (Nat.le_of_ble_eq_true rfl) ?_
  intro p e s m args below meth c ls R Q nq hRf hRl hRc hRs hnq C hE hM hl hmn ret
  have hl : lv_has ls 1 [(0, .ref q0)] := hl
  have hx := C.1.1
  have hb := C.1.2.1
  have hts := C.1.2.2.2.2
  have hown := C.1.2.2.2.1
  have hf : (f_X4_clear σ q0) = (f_X4_clear σ q0) := rfl
  refine lv_aload_n hx hb dX4_clear_0 rfl (lv_at hl 0 rfl) ?_
  refine lv_iconst (v := 0) hx hb dX4_clear_1 (by decide) ?_
  have hk_1 := And.left hok
  have hok := And.right hok
  refine xp_X4_7 C hM hk_1 dX4_clear_2 (fun H locs hM => ?_)
  refine lv_aload_n hx hb dX4_clear_5 rfl (lv_at hl 0 rfl) ?_
  refine lv_iconst (v := 0) hx hb dX4_clear_6 (by decide) ?_
  refine xp_X4_13 C hM hk_1 dX4_clear_7 (fun H locs hM => ?_)
  refine lv_aload_n hx hb dX4_clear_10 rfl (lv_at hl 0 rfl) ?_
  refine lv_lconst (v := 0) hx hb dX4_clear_11 (by decide) ?_
  refine xp_X4_16 C hM hk_1 dX4_clear_12 (fun H locs hM => ?_)
  refine lv_aload_n hx hb dX4_clear_15 rfl (lv_at hl 0 rfl) ?_
  refine lv_lconst (v := 0) hx hb dX4_clear_16 (by decide) ?_
  refine xp_X4_20 C hM hk_1 dX4_clear_17 (fun H locs hM => ?_)
  refine lv_aload_n hx hb dX4_clear_20 rfl (lv_at hl 0 rfl) ?_
  refine lv_lconst (v := 0) hx hb dX4_clear_21 (by decide) ?_
  refine xp_X4_23 C hM hk_1 dX4_clear_22 (fun H locs hM => ?_)
  refine lv_aload_n hx hb dX4_clear_25 rfl (lv_at hl 0 rfl) ?_
  refine lv_lconst (v := 0) hx hb dX4_clear_26 (by decide) ?_
  refine xp_X4_26 C hM hk_1 dX4_clear_27 (fun H locs hM => ?_)
  refine lv_aload_n hx hb dX4_clear_30 rfl (lv_at hl 0 rfl) ?_
  refine lv_lconst (v := 0) hx hb dX4_clear_31 (by decide) ?_
  refine xp_X4_29 C hM hk_1 dX4_clear_32 (fun H locs hM => ?_)
  refine lv_aload_n hx hb dX4_clear_35 rfl (lv_at hl 0 rfl) ?_
  refine lv_lconst (v := 0) hx hb dX4_clear_36 (by decide) ?_
  refine xp_X4_32 C hM hk_1 dX4_clear_37 (fun H locs hM => ?_)
  refine lv_aload_n hx hb dX4_clear_40 rfl (lv_at hl 0 rfl) ?_
  refine lv_lconst (v := 0) hx hb dX4_clear_41 (by decide) ?_
  refine xp_X4_35 C hM hk_1 dX4_clear_42 (fun H locs hM => ?_)
  exact ret _ _ _ _ _ hM dX4_clear_45 hf
def f_X4_add_52 (σ : XS) (q0 : Nat) (p1 : Nat) (σ_52 : XS) : Unit × XS := ((), (xJ σ_52 105 q0 (f_J9_max_f86c9 (xj σ_52 105 q0) ((xi σ_52 144 p1).toInt64))))
def of_X4_add_52 (σ : XS) (q0 : Nat) (p1 : Nat) (σ_52 : XS) : Prop := ((xk σ_52 q0) = 5 ∧ ((xk σ_52 p1) = 7 ∧ True))
def f_X4_add (σ : XS) (q0 : Nat) (p1 : Nat) : Unit × XS := (f_X4_add_52 σ q0 p1 (xJ (xJ (xI (xI σ 100 q0 (xi σ 141 p1)) 101 q0 ((xi σ 101 q0) + 1)) 103 q0 ((xj σ 103 q0) + ((xi σ 143 p1).toInt64))) 104 q0 ((xj σ 104 q0) + (((xi σ 144 p1).toInt64) * ((xi σ 143 p1).toInt64)))))
def of_X4_add (σ : XS) (q0 : Nat) (p1 : Nat) : Prop := ((xk σ p1) = 7 ∧ ((xk σ q0) = 5 ∧ (of_X4_add_52 σ q0 p1 (xJ (xJ (xI (xI σ 100 q0 (xi σ 141 p1)) 101 q0 ((xi σ 101 q0) + 1)) 103 q0 ((xj σ 103 q0) + ((xi σ 143 p1).toInt64))) 104 q0 ((xj σ 104 q0) + (((xi σ 144 p1).toInt64) * ((xi σ 143 p1).toInt64)))))))
set_option maxHeartbeats 4000000 in
set_option maxRecDepth 100000 in
theorem k_X4_add (l : Launch) (D : va_G) (a : Nat → ClassId) (x : Nat) (e0 : Nat) (A : Nat → Prop) (σ : XS) (q0 : Nat) (p1 : Nat) (hok : of_X4_add σ q0 p1) : KX l D a x e0 A yX4_add cX4_add 2 none 1 23 0 0 [.ref q0, .ref p1] σ (fun _ => none) (fun _ => f_X4_add σ q0 p1) := by
  refine goXv (by decide +kernel) (Nat.le_of_ble_eq_true rfl) ?_
  intro p e s m args below meth c ls R Q nq hRf hRl hRc hRs hnq C hE hM hl hmn ret
  have hl : lv_has ls 2 [(0, .ref q0), (1, .ref p1)] := hl
  have hx := C.1.1
  have hb := C.1.2.1
  have hts := C.1.2.2.2.2
  have hown := C.1.2.2.2.1
  have hf : (f_X4_add σ q0 p1) = (f_X4_add σ q0 p1) := rfl
  have J_52 : ∀ (σ_52 : XS), (f_X4_add σ q0 p1) = f_X4_add_52 σ q0 p1 σ_52 → of_X4_add_52 σ q0 p1 σ_52 → ∀ (H : Heap) (locs : List Loc) (ls : Array Slot), HX D a x e0 A σ_52 s.heap H locs → lv_has ls 2 [(0, .ref q0), (1, .ref p1)] → W p l e R s m args below meth c H locs 0 0 Q (F0 m 52 ls []) := by
    intro σ_52 hf hok H locs ls hM hl
    refine lv_aload_n hx hb dX4_add_52 rfl (lv_at hl 0 rfl) ?_
    refine lv_aload_n hx hb dX4_add_53 rfl (lv_at hl 0 rfl) ?_
    have hk_3 := And.left hok
    have hok := And.right hok
    refine xg_X4_23 C hM hk_3 dX4_add_54 ?_
    refine lv_aload_n hx hb dX4_add_57 rfl (lv_at hl 1 rfl) ?_
    have hk_4 := And.left hok
    have hok := And.right hok
    refine xg_X4_47 C hM hk_4 dX4_add_58 ?_
    refine lv_i2l (v := ((xi σ_52 144 p1).toInt64)) hx hb dX4_add_61 rfl ?_
    refine cc_S (av := [.long (xj σ_52 105 q0), .long ((xi σ_52 144 p1).toInt64)]) C (k_J9_max_f86c9 l D a (xj σ_52 105 q0) ((xi σ_52 144 p1).toInt64)) cw_X4_50 (okR_of hRf hRl (Nat.le_of_ble_eq_true rfl) (Nat.le_of_ble_eq_true rfl)) rfl rfl hl.1 (Nat.le_of_ble_eq_true rfl) (Nat.zero_le _) (Nat.zero_le _) dX4_add_62 ?_
    refine xp_X4_23 C hM hk_3 dX4_add_65 (fun H locs hM => ?_)
    exact ret _ _ _ _ _ hM dX4_add_68 hf
  refine lv_aload_n hx hb dX4_add_0 rfl (lv_at hl 0 rfl) ?_
  refine lv_aload_n hx hb dX4_add_1 rfl (lv_at hl 1 rfl) ?_
  have hk_1 := And.left hok
  have hok := And.right hok
  refine xg_X4_38 C hM hk_1 dX4_add_2 ?_
  have hk_2 := And.left hok
  have hok := And.right hok
  refine xp_X4_43 C hM hk_2 dX4_add_5 (fun H locs hM => ?_)
  refine lv_aload_n hx hb dX4_add_8 rfl (lv_at hl 0 rfl) ?_
  refine lv_dup hx hb dX4_add_9 rfl ?_
  refine xg_X4_7 C hM hk_2 dX4_add_10 ?_
  refine lv_iconst (v := 1) hx hb dX4_add_13 (by decide) ?_
  refine lv_iadd hx hb dX4_add_14 ?_
  refine xp_X4_7 C hM hk_2 dX4_add_15 (fun H locs hM => ?_)
  refine lv_aload_n hx hb dX4_add_18 rfl (lv_at hl 0 rfl) ?_
  refine lv_dup hx hb dX4_add_19 rfl ?_
  refine xg_X4_16 C hM hk_2 dX4_add_20 ?_
  refine lv_aload_n hx hb dX4_add_23 rfl (lv_at hl 1 rfl) ?_
  refine xg_X4_44 C hM hk_1 dX4_add_24 ?_
  refine lv_i2l (v := ((xi σ 143 p1).toInt64)) hx hb dX4_add_27 rfl ?_
  refine lv_ladd hx hb dX4_add_28 ?_
  refine xp_X4_16 C hM hk_2 dX4_add_29 (fun H locs hM => ?_)
  refine lv_aload_n hx hb dX4_add_32 rfl (lv_at hl 0 rfl) ?_
  refine lv_dup hx hb dX4_add_33 rfl ?_
  refine xg_X4_20 C hM hk_2 dX4_add_34 ?_
  refine lv_aload_n hx hb dX4_add_37 rfl (lv_at hl 1 rfl) ?_
  refine xg_X4_47 C hM hk_1 dX4_add_38 ?_
  refine lv_i2l (v := ((xi σ 144 p1).toInt64)) hx hb dX4_add_41 rfl ?_
  refine lv_aload_n hx hb dX4_add_42 rfl (lv_at hl 1 rfl) ?_
  refine xg_X4_44 C hM hk_1 dX4_add_43 ?_
  refine lv_i2l (v := ((xi σ 143 p1).toInt64)) hx hb dX4_add_46 rfl ?_
  refine lv_lmul hx hb dX4_add_47 ?_
  refine lv_ladd hx hb dX4_add_48 ?_
  refine xp_X4_20 C hM hk_2 dX4_add_49 (fun H locs hM => ?_)
  exact J_52 (xJ (xJ (xI (xI σ 100 q0 (xi σ 141 p1)) 101 q0 ((xi σ 101 q0) + 1)) 103 q0 ((xj σ 103 q0) + ((xi σ 143 p1).toInt64))) 104 q0 ((xj σ 104 q0) + (((xi σ 144 p1).toInt64) * ((xi σ 143 p1).toInt64)))) hf hok _ _ ls hM (lv_sub hl [0, 1] rfl)
def f_X4_addPair_49 (σ : XS) (q0 : Nat) (p1 : Nat) (p2 : Nat) (σ_49 : XS) : Unit × XS := ((), (xJ σ_49 109 q0 ((xj σ_49 109 q0) + (xj σ_49 61 p2))))
def of_X4_addPair_49 (σ : XS) (q0 : Nat) (p1 : Nat) (p2 : Nat) (σ_49 : XS) : Prop := ((xk σ_49 q0) = 5 ∧ ((xk σ_49 p2) = 3 ∧ True))
def f_X4_addPair (σ : XS) (q0 : Nat) (p1 : Nat) (p2 : Nat) : Unit × XS := (f_X4_addPair_49 σ q0 p1 p2 (xJ (xJ (xJ (xI σ 102 q0 ((xi σ 102 q0) + 1)) 106 q0 ((xj σ 106 q0) + (xj σ 60 p1))) 107 q0 ((xj σ 107 q0) + (xj σ 61 p1))) 108 q0 ((xj σ 108 q0) + (xj σ 60 p2))))
def of_X4_addPair (σ : XS) (q0 : Nat) (p1 : Nat) (p2 : Nat) : Prop := ((xk σ q0) = 5 ∧ ((xk σ p1) = 3 ∧ ((xk σ p2) = 3 ∧ (of_X4_addPair_49 σ q0 p1 p2 (xJ (xJ (xJ (xI σ 102 q0 ((xi σ 102 q0) + 1)) 106 q0 ((xj σ 106 q0) + (xj σ 60 p1))) 107 q0 ((xj σ 107 q0) + (xj σ 61 p1))) 108 q0 ((xj σ 108 q0) + (xj σ 60 p2)))))))
set_option maxHeartbeats 4000000 in
set_option maxRecDepth 100000 in
theorem k_X4_addPair (l : Launch) (D : va_G) (a : Nat → ClassId) (x : Nat) (e0 : Nat) (A : Nat → Prop) (σ : XS) (q0 : Nat) (p1 : Nat) (p2 : Nat) (hok : of_X4_addPair σ q0 p1 p2) : KX l D a x e0 A yX4_addPair cX4_addPair 3 none 0 0 0 0 [.ref q0, .ref p1, .ref p2] σ (fun _ => none) (fun _ => f_X4_addPair σ q0 p1 p2) := by
  refine goXv (by decide +kernel) (Nat.le_of_ble_eq_true rfl) ?_
  intro p e s m args below meth c ls R Q nq hRf hRl hRc hRs hnq C hE hM hl hmn ret
  have hl : lv_has ls 3 [(0, .ref q0), (1, .ref p1), (2, .ref p2)] := hl
  have hx := C.1.1
  have hb := C.1.2.1
  have hts := C.1.2.2.2.2
  have hown := C.1.2.2.2.1
  have hf : (f_X4_addPair σ q0 p1 p2) = (f_X4_addPair σ q0 p1 p2) := rfl
  have J_49 : ∀ (σ_49 : XS), (f_X4_addPair σ q0 p1 p2) = f_X4_addPair_49 σ q0 p1 p2 σ_49 → of_X4_addPair_49 σ q0 p1 p2 σ_49 → ∀ (H : Heap) (locs : List Loc) (ls : Array Slot), HX D a x e0 A σ_49 s.heap H locs → lv_has ls 3 [(0, .ref q0), (2, .ref p2)] → W p l e R s m args below meth c H locs 0 0 Q (F0 m 49 ls []) := by
    intro σ_49 hf hok H locs ls hM hl
    refine lv_aload_n hx hb dX4_addPair_49 rfl (lv_at hl 0 rfl) ?_
    refine lv_dup hx hb dX4_addPair_50 rfl ?_
    have hk_4 := And.left hok
    have hok := And.right hok
    refine xg_X4_35 C hM hk_4 dX4_addPair_51 ?_
    refine lv_aload_n hx hb dX4_addPair_54 rfl (lv_at hl 1 rfl) ?_
    have hk_5 := And.left hok
    have hok := And.right hok
    refine xg_X4_61 C hM hk_5 dX4_addPair_55 ?_
    refine lv_ladd hx hb dX4_addPair_58 ?_
    refine xp_X4_35 C hM hk_4 dX4_addPair_59 (fun H locs hM => ?_)
    exact ret _ _ _ _ _ hM dX4_addPair_62 hf
  refine lv_aload_n hx hb dX4_addPair_0 rfl (lv_at hl 0 rfl) ?_
  refine lv_dup hx hb dX4_addPair_1 rfl ?_
  have hk_1 := And.left hok
  have hok := And.right hok
  refine xg_X4_13 C hM hk_1 dX4_addPair_2 ?_
  refine lv_iconst (v := 1) hx hb dX4_addPair_5 (by decide) ?_
  refine lv_iadd hx hb dX4_addPair_6 ?_
  refine xp_X4_13 C hM hk_1 dX4_addPair_7 (fun H locs hM => ?_)
  refine lv_aload_n hx hb dX4_addPair_10 rfl (lv_at hl 0 rfl) ?_
  refine lv_dup hx hb dX4_addPair_11 rfl ?_
  refine xg_X4_26 C hM hk_1 dX4_addPair_12 ?_
  refine lv_aload_n hx hb dX4_addPair_15 rfl (lv_at hl 1 rfl) ?_
  have hk_2 := And.left hok
  have hok := And.right hok
  refine xg_X4_56 C hM hk_2 dX4_addPair_16 ?_
  refine lv_ladd hx hb dX4_addPair_19 ?_
  refine xp_X4_26 C hM hk_1 dX4_addPair_20 (fun H locs hM => ?_)
  refine lv_aload_n hx hb dX4_addPair_23 rfl (lv_at hl 0 rfl) ?_
  refine lv_dup hx hb dX4_addPair_24 rfl ?_
  refine xg_X4_29 C hM hk_1 dX4_addPair_25 ?_
  refine lv_aload_n hx hb dX4_addPair_28 rfl (lv_at hl 1 rfl) ?_
  refine xg_X4_61 C hM hk_2 dX4_addPair_29 ?_
  refine lv_ladd hx hb dX4_addPair_32 ?_
  refine xp_X4_29 C hM hk_1 dX4_addPair_33 (fun H locs hM => ?_)
  refine lv_aload_n hx hb dX4_addPair_36 rfl (lv_at hl 0 rfl) ?_
  refine lv_dup hx hb dX4_addPair_37 rfl ?_
  refine xg_X4_32 C hM hk_1 dX4_addPair_38 ?_
  refine lv_aload_n hx hb dX4_addPair_41 rfl (lv_at hl 2 rfl) ?_
  have hk_3 := And.left hok
  have hok := And.right hok
  refine xg_X4_56 C hM hk_3 dX4_addPair_42 ?_
  refine lv_ladd hx hb dX4_addPair_45 ?_
  refine xp_X4_32 C hM hk_1 dX4_addPair_46 (fun H locs hM => ?_)
  exact J_49 (xJ (xJ (xJ (xI σ 102 q0 ((xi σ 102 q0) + 1)) 106 q0 ((xj σ 106 q0) + (xj σ 60 p1))) 107 q0 ((xj σ 107 q0) + (xj σ 61 p1))) 108 q0 ((xj σ 108 q0) + (xj σ 60 p2))) hf hok _ _ ls hM (lv_sub hl [0, 2] rfl)
def f_X10_divided (p1 : Int64) (p2 : Int64) : Int64 := (if (lg_cmp p2 0) = 0 then 0 else (f_J9_floorDiv_f86c9 p1 p2))
def of_X10_divided (p1 : Int64) (p2 : Int64) : Prop := (oif ((lg_cmp p2 0) = 0) True (of_J9_floorDiv_f86c9 p1 p2 ∧ True))
set_option maxHeartbeats 4000000 in
set_option maxRecDepth 100000 in
theorem k_X10_divided (l : Launch) (D : va_G) (a : Nat → ClassId) (p1 : Int64) (p2 : Int64) (hok : of_X10_divided p1 p2) : K0 l yX10_divided cX10_divided 4 ((some .long)) 1 25 [.long p1, .long p2] (BK D a) (.long (f_X10_divided p1 p2)) := by
  refine go0l (D := D) (a := a) (by decide +kernel) (fun _ h => h) (Nat.le_of_ble_eq_true rfl) ?_
  intro p e s m args below meth c ls R Q hRf hRl C hl hB
  obtain ⟨-, ret⟩ := hB
  have hl : lv_has ls 4 [(0, .long p1), (2, .long p2)] := hl
  have hx := C.1.1
  have hb := C.1.2.1
  have hts := C.1.2.2.2.2
  have hown := C.1.2.2.2.1
  have hf : (f_X10_divided p1 p2) = (f_X10_divided p1 p2) := rfl
  refine lv_lload_n hx hb dX10_divided_0 rfl (lv_at hl 1 rfl) ?_
  refine lv_lconst (v := 0) hx hb dX10_divided_1 (by decide) ?_
  refine W.lcmp hx hb dX10_divided_2 ?_
  refine lv_if_ne (tgt := 10) hx hb dX10_divided_3 (by decide) (fun c_1 => ?_) (fun c_1 => ?_)
  · have hf := hf.trans (if_neg c_1)
    have hok := oif_neg hok c_1
    refine lv_lload_n hx hb dX10_divided_10 rfl (lv_at hl 0 rfl) ?_
    refine lv_lload_n hx hb dX10_divided_11 rfl (lv_at hl 1 rfl) ?_
    have ok_2 := And.left hok
    have hok := And.right hok
    refine cc_S (av := [.long p1, .long p2]) C (k_J9_floorDiv_f86c9 l D a p1 p2 ok_2) cw_X10_469 (okR_of hRf hRl (Nat.le_of_ble_eq_true rfl) (Nat.le_of_ble_eq_true rfl)) rfl rfl hl.1 (Nat.le_of_ble_eq_true rfl) (Nat.zero_le _) (Nat.zero_le _) dX10_divided_12 ?_
    exact ret _ _ _ dX10_divided_15 hf
  · have hf := hf.trans (if_pos c_1)
    have hok := oif_pos hok c_1
    refine lv_lconst (v := 0) hx hb dX10_divided_6 (by decide) ?_
    refine lv_goto (tgt := 15) hx hb dX10_divided_7 (by decide) ?_
    exact ret _ _ _ dX10_divided_15 hf
def f_X4_flightX (σ : XS) (q0 : Nat) : Int64 := ((xj σ 108 q0) - (xj σ 106 q0))
def of_X4_flightX (σ : XS) (q0 : Nat) : Prop := ((xk σ q0) = 5 ∧ True)
set_option maxHeartbeats 4000000 in
set_option maxRecDepth 100000 in
theorem k_X4_flightX (l : Launch) (D : va_G) (a : Nat → ClassId) (x : Nat) (e0 : Nat) (A : Nat → Prop) (σ : XS) (q0 : Nat) (hok : of_X4_flightX σ q0) : K0 l yX4_flightX cX4_flightX 1 ((some .long)) 0 0 [.ref q0] (BX D a x e0 A σ) (.long (f_X4_flightX σ q0)) := by
  refine go0l (D := D) (a := a) (by decide +kernel) (fun _ h => h.1.1) (Nat.le_of_ble_eq_true rfl) ?_
  intro p e s m args below meth c ls R Q hRf hRl C hl hB
  obtain ⟨hB, ret⟩ := hB
  have hE := hB.1
  have hM : HX D a x e0 A σ s.heap s.heap [] := ⟨hB.2, va_S.rf⟩
  have hl : lv_has ls 1 [(0, .ref q0)] := hl
  have hx := C.1.1
  have hb := C.1.2.1
  have hts := C.1.2.2.2.2
  have hown := C.1.2.2.2.1
  have hf : (f_X4_flightX σ q0) = (f_X4_flightX σ q0) := rfl
  refine lv_aload_n hx hb dX4_flightX_0 rfl (lv_at hl 0 rfl) ?_
  have hk_1 := And.left hok
  have hok := And.right hok
  refine xg_X4_32 C hM hk_1 dX4_flightX_1 ?_
  refine lv_aload_n hx hb dX4_flightX_4 rfl (lv_at hl 0 rfl) ?_
  refine xg_X4_26 C hM hk_1 dX4_flightX_5 ?_
  refine lv_lsub hx hb dX4_flightX_8 ?_
  exact ret _ _ _ dX4_flightX_9 hf
def f_X4_flightY (σ : XS) (q0 : Nat) : Int64 := ((xj σ 109 q0) - (xj σ 107 q0))
def of_X4_flightY (σ : XS) (q0 : Nat) : Prop := ((xk σ q0) = 5 ∧ True)
set_option maxHeartbeats 4000000 in
set_option maxRecDepth 100000 in
theorem k_X4_flightY (l : Launch) (D : va_G) (a : Nat → ClassId) (x : Nat) (e0 : Nat) (A : Nat → Prop) (σ : XS) (q0 : Nat) (hok : of_X4_flightY σ q0) : K0 l yX4_flightY cX4_flightY 1 ((some .long)) 0 0 [.ref q0] (BX D a x e0 A σ) (.long (f_X4_flightY σ q0)) := by
  refine go0l (D := D) (a := a) (by decide +kernel) (fun _ h => h.1.1) (Nat.le_of_ble_eq_true rfl) ?_
  intro p e s m args below meth c ls R Q hRf hRl C hl hB
  obtain ⟨hB, ret⟩ := hB
  have hE := hB.1
  have hM : HX D a x e0 A σ s.heap s.heap [] := ⟨hB.2, va_S.rf⟩
  have hl : lv_has ls 1 [(0, .ref q0)] := hl
  have hx := C.1.1
  have hb := C.1.2.1
  have hts := C.1.2.2.2.2
  have hown := C.1.2.2.2.1
  have hf : (f_X4_flightY σ q0) = (f_X4_flightY σ q0) := rfl
  refine lv_aload_n hx hb dX4_flightY_0 rfl (lv_at hl 0 rfl) ?_
  have hk_1 := And.left hok
  have hok := And.right hok
  refine xg_X4_35 C hM hk_1 dX4_flightY_1 ?_
  refine lv_aload_n hx hb dX4_flightY_4 rfl (lv_at hl 0 rfl) ?_
  refine xg_X4_29 C hM hk_1 dX4_flightY_5 ?_
  refine lv_lsub hx hb dX4_flightY_8 ?_
  exact ret _ _ _ dX4_flightY_9 hf
def f_X10_rootOf_l6_32 (p1 : Int64) (w2_6 : Int64) (w4_6 : Int32) (v2_32 : Int64) (v4_32 : Int32) : Bool × (Int64 × Int32) := (true, (v2_32, (v4_32 + (-1))))
def b_X10_rootOf_6 (p1 : Int64) (w2_6 : Int64) (w4_6 : Int32) : Bool × (Int64 × Int32) := (if w4_6 < 0 then (false, (w2_6, w4_6)) else (if 0 < (lg_cmp ((w2_6 + ((1 : Int64) <<< (w4_6.toInt64 &&& 63))) * (w2_6 + ((1 : Int64) <<< (w4_6.toInt64 &&& 63)))) p1) then (f_X10_rootOf_l6_32 p1 w2_6 w4_6 w2_6 w4_6) else (f_X10_rootOf_l6_32 p1 w2_6 w4_6 (w2_6 + ((1 : Int64) <<< (w4_6.toInt64 &&& 63))) w4_6)))
def ob_X10_rootOf_6 (p1 : Int64) (w2_6 : Int64) (w4_6 : Int32) : Prop := True
def s_X10_rootOf_6 (p1 : Int64) (v : Int64 × Int32) : Bool × (Int64 × Int32) := b_X10_rootOf_6 p1 v.1 v.2
def os_X10_rootOf_6 (p1 : Int64) (v : Int64 × Int32) : Prop := ob_X10_rootOf_6 p1 v.1 v.2
def f_X10_rootOf_38 (p1 : Int64) (v2_38 : Int64) : Int64 := v2_38
def f_X10_rootOf_6 (p1 : Int64) (v2_6 : Int64) (v4_6 : Int32) : Int64 := (f_X10_rootOf_38 p1 ((itr (s_X10_rootOf_6 p1) FU (v2_6, v4_6)).1))
def of_X10_rootOf_6 (p1 : Int64) (v2_6 : Int64) (v4_6 : Int32) : Prop := (ito (s_X10_rootOf_6 p1) (os_X10_rootOf_6 p1) FU (v2_6, v4_6) ∧ True)
def f_X10_rootOf (p1 : Int64) : Int64 := (f_X10_rootOf_6 p1 0 30)
def of_X10_rootOf (p1 : Int64) : Prop := (of_X10_rootOf_6 p1 0 30)
set_option maxHeartbeats 4000000 in
set_option maxRecDepth 100000 in
theorem k_X10_rootOf (l : Launch) (D : va_G) (a : Nat → ClassId) (p1 : Int64) (hok : of_X10_rootOf p1) : K0 l yX10_rootOf cX10_rootOf 7 ((some .long)) 0 0 [.long p1] (BK D a) (.long (f_X10_rootOf p1)) := by
  refine go0l (D := D) (a := a) (by decide +kernel) (fun _ h => h) (Nat.le_of_ble_eq_true rfl) ?_
  intro p e s m args below meth c ls R Q hRf hRl C hl hB
  obtain ⟨-, ret⟩ := hB
  have hl : lv_has ls 7 [(0, .long p1)] := hl
  have hx := C.1.1
  have hb := C.1.2.1
  have hts := C.1.2.2.2.2
  have hown := C.1.2.2.2.1
  have hf : (f_X10_rootOf p1) = (f_X10_rootOf p1) := rfl
  have J_38 : ∀ (v2_38 : Int64), (f_X10_rootOf p1) = f_X10_rootOf_38 p1 v2_38 → ∀ (ls : Array Slot), lv_has ls 7 [(2, .long v2_38)] → W p l e R s m args below meth c s.heap [] 0 0 Q (F0 m 38 ls []) := by
    intro v2_38 hf ls hl
    refine lv_lload_n hx hb dX10_rootOf_38 rfl (lv_at hl 0 rfl) ?_
    exact ret _ _ _ dX10_rootOf_39 hf
  have J_6 : ∀ (v2_6 : Int64) (v4_6 : Int32), (f_X10_rootOf p1) = f_X10_rootOf_6 p1 v2_6 v4_6 → of_X10_rootOf_6 p1 v2_6 v4_6 → ∀ (ls : Array Slot), lv_has ls 7 [(0, .long p1), (2, .long v2_6), (4, .int v4_6)] → W p l e R s m args below meth c s.heap [] 0 0 Q (F0 m 6 ls []) := by
    intro v2_6 v4_6 hf hok ls hl
    refine itr_W (f := (s_X10_rootOf_6 p1)) (o := (os_X10_rootOf_6 p1)) (fun (v : Int64 × Int32) => ∀ (ls : Array Slot), lv_has ls 7 [(0, .long p1), (2, .long v.1), (4, .int v.2)] → W p l e R s m args below meth c s.heap [] 0 0 Q (F0 m 6 ls [])) (fun (v : Int64 × Int32) => ∀ (ls : Array Slot), lv_has ls 7 [(2, .long v.1)] → W p l e R s m args below meth c s.heap [] 0 0 Q (F0 m 38 ls [])) ?_ FU (v2_6, v4_6) (And.left hok) ?_ ls (lv_sub hl [0, 1, 2] rfl)
    · intro v hov kc ke
      obtain ⟨w2_6, w4_6⟩ := v
      have hok : ob_X10_rootOf_6 p1 w2_6 w4_6 := hov
      change ∀ v', (b_X10_rootOf_6 p1 w2_6 w4_6) = (true, v') → _ at kc
      change ∀ v', (b_X10_rootOf_6 p1 w2_6 w4_6) = (false, v') → _ at ke
      have hf : (b_X10_rootOf_6 p1 w2_6 w4_6) = (b_X10_rootOf_6 p1 w2_6 w4_6) := rfl
      intro ls hl
      have J_l6_32 : ∀ (v2_32 : Int64) (v4_32 : Int32), (b_X10_rootOf_6 p1 w2_6 w4_6) = f_X10_rootOf_l6_32 p1 w2_6 w4_6 v2_32 v4_32 → ∀ (ls : Array Slot), lv_has ls 7 [(0, .long p1), (2, .long v2_32), (4, .int v4_32)] → W p l e R s m args below meth c s.heap [] 0 0 Q (F0 m 32 ls []) := by
        intro v2_32 v4_32 hf ls hl
        refine lv_iinc (v := (v4_32 + (-1))) (lv' := [(4, .int (v4_32 + (-1))), (0, .long p1), (2, .long v2_32)]) hx hb dX10_rootOf_32 hl (k := 2) rfl rfl (by decide) rfl (fun ls hl => ?_)
        refine lv_goto (tgt := 6) hx hb dX10_rootOf_35 (by decide) ?_
        exact kc (v2_32, (v4_32 + (-1))) hf ls (lv_sub hl [1, 2, 0] rfl)
      refine lv_iload hx hb dX10_rootOf_6 (lv_at hl 2 rfl) ?_
      refine lv_if_lt (tgt := 38) hx hb dX10_rootOf_8 (by decide) (fun c_1 => ?_) (fun c_1 => ?_)
      · have hf := hf.trans (if_pos c_1)
        exact ke (w2_6, w4_6) hf ls (lv_sub hl [1] rfl)
      · have hf := hf.trans (if_neg c_1)
        refine lv_lload_n hx hb dX10_rootOf_11 rfl (lv_at hl 1 rfl) ?_
        refine lv_lconst (v := 1) hx hb dX10_rootOf_12 (by decide) ?_
        refine lv_iload hx hb dX10_rootOf_13 (lv_at hl 2 rfl) ?_
        refine lv_lshl (v := ((1 : Int64) <<< (w4_6.toInt64 &&& 63))) hx hb dX10_rootOf_15 rfl ?_
        refine lv_ladd hx hb dX10_rootOf_16 ?_
        refine lv_lstore (lv' := [(5, .long (w2_6 + ((1 : Int64) <<< (w4_6.toInt64 &&& 63)))), (0, .long p1), (2, .long w2_6), (4, .int w4_6)]) hx hb dX10_rootOf_17 hl (by decide) rfl (fun ls hl => ?_)
        refine lv_lload hx hb dX10_rootOf_19 (lv_at hl 0 rfl) ?_
        refine lv_lload hx hb dX10_rootOf_21 (lv_at hl 0 rfl) ?_
        refine lv_lmul hx hb dX10_rootOf_23 ?_
        refine lv_lload_n hx hb dX10_rootOf_24 rfl (lv_at hl 1 rfl) ?_
        refine W.lcmp hx hb dX10_rootOf_25 ?_
        refine lv_if_gt (tgt := 32) hx hb dX10_rootOf_26 (by decide) (fun c_2 => ?_) (fun c_2 => ?_)
        · have hf := hf.trans (if_pos c_2)
          exact J_l6_32 w2_6 w4_6 hf ls (lv_sub hl [1, 2, 3] rfl)
        · have hf := hf.trans (if_neg c_2)
          refine lv_lload hx hb dX10_rootOf_29 (lv_at hl 0 rfl) ?_
          refine lv_lstore_n (lv' := [(2, .long (w2_6 + ((1 : Int64) <<< (w4_6.toInt64 &&& 63)))), (5, .long (w2_6 + ((1 : Int64) <<< (w4_6.toInt64 &&& 63)))), (0, .long p1), (4, .int w4_6)]) hx hb dX10_rootOf_31 rfl hl (by decide) rfl (fun ls hl => ?_)
          exact J_l6_32 (w2_6 + ((1 : Int64) <<< (w4_6.toInt64 &&& 63))) w4_6 hf ls (lv_sub hl [2, 0, 3] rfl)
    · have hok := And.right hok
      intro ls hl
      exact J_38 ((itr (s_X10_rootOf_6 p1) FU (v2_6, v4_6)).1) hf ls (lv_sub hl [0] rfl)
  refine lv_lconst (v := 0) hx hb dX10_rootOf_0 (by decide) ?_
  refine lv_lstore_n (lv' := [(2, .long 0), (0, .long p1)]) hx hb dX10_rootOf_1 rfl hl (by decide) rfl (fun ls hl => ?_)
  refine lv_bipush (v := 30) hx hb dX10_rootOf_2 (by decide) ?_
  refine lv_istore (lv' := [(4, .int 30), (2, .long 0), (0, .long p1)]) hx hb dX10_rootOf_4 hl (by decide) rfl (fun ls hl => ?_)
  exact J_6 0 30 hf hok ls (lv_sub hl [2, 1, 0] rfl)
def f_X4_settle_125 (σ : XS) (q0 : Nat) (σ_125 : XS) : Unit × XS := ((), (xJ σ_125 112 q0 (f_X10_divided (1000 * (xj σ_125 105 q0)) ((xj σ_125 110 q0) + 1))))
def of_X4_settle_125 (σ : XS) (q0 : Nat) (σ_125 : XS) : Prop := ((xk σ_125 q0) = 5 ∧ (of_X10_divided (1000 * (xj σ_125 105 q0)) ((xj σ_125 110 q0) + 1) ∧ True))
def f_X4_settle_87 (σ : XS) (q0 : Nat) (v1_87 : Int64) (σ_87 : XS) : Unit × XS := (f_X4_settle_125 σ q0 (xJ (xJ σ_87 110 q0 (f_X10_divided ((10 * v1_87) * ((xi σ_87 101 q0).toInt64)) (xj σ_87 103 q0))) 111 q0 (f_X10_divided (xj σ_87 104 q0) ((xi σ_87 101 q0).toInt64))))
def of_X4_settle_87 (σ : XS) (q0 : Nat) (v1_87 : Int64) (σ_87 : XS) : Prop := ((xk σ_87 q0) = 5 ∧ (of_X10_divided ((10 * v1_87) * ((xi σ_87 101 q0).toInt64)) (xj σ_87 103 q0) ∧ (of_X10_divided (xj σ_87 104 q0) ((xi σ_87 101 q0).toInt64) ∧ (of_X4_settle_125 σ q0 (xJ (xJ σ_87 110 q0 (f_X10_divided ((10 * v1_87) * ((xi σ_87 101 q0).toInt64)) (xj σ_87 103 q0))) 111 q0 (f_X10_divided (xj σ_87 104 q0) ((xi σ_87 101 q0).toInt64)))))))
def f_X4_settle_48 (σ : XS) (q0 : Nat) (σ_48 : XS) : Unit × XS := (f_X4_settle_87 σ q0 (f_X10_rootOf (((f_X4_flightX (xJ σ_48 109 q0 (f_X10_divided (xj σ_48 109 q0) ((xi σ_48 102 q0).toInt64))) q0) * (f_X4_flightX (xJ σ_48 109 q0 (f_X10_divided (xj σ_48 109 q0) ((xi σ_48 102 q0).toInt64))) q0)) + ((f_X4_flightY (xJ σ_48 109 q0 (f_X10_divided (xj σ_48 109 q0) ((xi σ_48 102 q0).toInt64))) q0) * (f_X4_flightY (xJ σ_48 109 q0 (f_X10_divided (xj σ_48 109 q0) ((xi σ_48 102 q0).toInt64))) q0)))) (xJ σ_48 109 q0 (f_X10_divided (xj σ_48 109 q0) ((xi σ_48 102 q0).toInt64))))
def of_X4_settle_48 (σ : XS) (q0 : Nat) (σ_48 : XS) : Prop := ((xk σ_48 q0) = 5 ∧ (of_X10_divided (xj σ_48 109 q0) ((xi σ_48 102 q0).toInt64) ∧ (of_X4_flightX (xJ σ_48 109 q0 (f_X10_divided (xj σ_48 109 q0) ((xi σ_48 102 q0).toInt64))) q0 ∧ (of_X4_flightX (xJ σ_48 109 q0 (f_X10_divided (xj σ_48 109 q0) ((xi σ_48 102 q0).toInt64))) q0 ∧ (of_X4_flightY (xJ σ_48 109 q0 (f_X10_divided (xj σ_48 109 q0) ((xi σ_48 102 q0).toInt64))) q0 ∧ (of_X4_flightY (xJ σ_48 109 q0 (f_X10_divided (xj σ_48 109 q0) ((xi σ_48 102 q0).toInt64))) q0 ∧ (of_X10_rootOf (((f_X4_flightX (xJ σ_48 109 q0 (f_X10_divided (xj σ_48 109 q0) ((xi σ_48 102 q0).toInt64))) q0) * (f_X4_flightX (xJ σ_48 109 q0 (f_X10_divided (xj σ_48 109 q0) ((xi σ_48 102 q0).toInt64))) q0)) + ((f_X4_flightY (xJ σ_48 109 q0 (f_X10_divided (xj σ_48 109 q0) ((xi σ_48 102 q0).toInt64))) q0) * (f_X4_flightY (xJ σ_48 109 q0 (f_X10_divided (xj σ_48 109 q0) ((xi σ_48 102 q0).toInt64))) q0))) ∧ (of_X4_settle_87 σ q0 (f_X10_rootOf (((f_X4_flightX (xJ σ_48 109 q0 (f_X10_divided (xj σ_48 109 q0) ((xi σ_48 102 q0).toInt64))) q0) * (f_X4_flightX (xJ σ_48 109 q0 (f_X10_divided (xj σ_48 109 q0) ((xi σ_48 102 q0).toInt64))) q0)) + ((f_X4_flightY (xJ σ_48 109 q0 (f_X10_divided (xj σ_48 109 q0) ((xi σ_48 102 q0).toInt64))) q0) * (f_X4_flightY (xJ σ_48 109 q0 (f_X10_divided (xj σ_48 109 q0) ((xi σ_48 102 q0).toInt64))) q0)))) (xJ σ_48 109 q0 (f_X10_divided (xj σ_48 109 q0) ((xi σ_48 102 q0).toInt64)))))))))))
def f_X4_settle (σ : XS) (q0 : Nat) : Unit × XS := (f_X4_settle_48 σ q0 (xJ (xJ (xJ σ 106 q0 (f_X10_divided (xj σ 106 q0) ((xi σ 102 q0).toInt64))) 107 q0 (f_X10_divided (xj σ 107 q0) ((xi σ 102 q0).toInt64))) 108 q0 (f_X10_divided (xj σ 108 q0) ((xi σ 102 q0).toInt64))))
def of_X4_settle (σ : XS) (q0 : Nat) : Prop := ((xk σ q0) = 5 ∧ (of_X10_divided (xj σ 106 q0) ((xi σ 102 q0).toInt64) ∧ (of_X10_divided (xj σ 107 q0) ((xi σ 102 q0).toInt64) ∧ (of_X10_divided (xj σ 108 q0) ((xi σ 102 q0).toInt64) ∧ (of_X4_settle_48 σ q0 (xJ (xJ (xJ σ 106 q0 (f_X10_divided (xj σ 106 q0) ((xi σ 102 q0).toInt64))) 107 q0 (f_X10_divided (xj σ 107 q0) ((xi σ 102 q0).toInt64))) 108 q0 (f_X10_divided (xj σ 108 q0) ((xi σ 102 q0).toInt64))))))))
set_option maxHeartbeats 4000000 in
set_option maxRecDepth 100000 in
theorem k_X4_settle (l : Launch) (D : va_G) (a : Nat → ClassId) (x : Nat) (e0 : Nat) (A : Nat → Prop) (σ : XS) (q0 : Nat) (hok : of_X4_settle σ q0) : KX l D a x e0 A yX4_settle cX4_settle 3 none 2 48 0 0 [.ref q0] σ (fun _ => none) (fun _ => f_X4_settle σ q0) := by
  refine goXv (by decide +kernel) (Nat.le_of_ble_eq_true rfl) ?_
  intro p e s m args below meth c ls R Q nq hRf hRl hRc hRs hnq C hE hM hl hmn ret
  have hl : lv_has ls 3 [(0, .ref q0)] := hl
  have hx := C.1.1
  have hb := C.1.2.1
  have hts := C.1.2.2.2.2
  have hown := C.1.2.2.2.1
  have hf : (f_X4_settle σ q0) = (f_X4_settle σ q0) := rfl
  have J_125 : ∀ (σ_125 : XS), (f_X4_settle σ q0) = f_X4_settle_125 σ q0 σ_125 → of_X4_settle_125 σ q0 σ_125 → ∀ (H : Heap) (locs : List Loc) (ls : Array Slot), HX D a x e0 A σ_125 s.heap H locs → lv_has ls 3 [(0, .ref q0)] → W p l e R s m args below meth c H locs 0 0 Q (F0 m 125 ls []) := by
    intro σ_125 hf hok H locs ls hM hl
    refine lv_aload_n hx hb dX4_settle_125 rfl (lv_at hl 0 rfl) ?_
    refine lv_ldc2 (v := 1000) hx hb hown (hts _ q_540) dX4_settle_126 ?_
    refine lv_aload_n hx hb dX4_settle_129 rfl (lv_at hl 0 rfl) ?_
    have hk_15 := And.left hok
    have hok := And.right hok
    refine xg_X4_23 C hM hk_15 dX4_settle_130 ?_
    refine lv_lmul hx hb dX4_settle_133 ?_
    refine lv_aload_n hx hb dX4_settle_134 rfl (lv_at hl 0 rfl) ?_
    refine xg_X4_82 C hM hk_15 dX4_settle_135 ?_
    refine lv_lconst (v := 1) hx hb dX4_settle_138 (by decide) ?_
    refine lv_ladd hx hb dX4_settle_139 ?_
    have ok_16 := And.left hok
    have hok := And.right hok
    refine cc_Z (av := [.long (1000 * (xj σ_125 105 q0)), .long ((xj σ_125 110 q0) + 1)]) C hE (k_X10_divided l D a (1000 * (xj σ_125 105 q0)) ((xj σ_125 110 q0) + 1) ok_16) cw_X4_64 (okR_of hRf hRl (Nat.le_of_ble_eq_true rfl) (Nat.le_of_ble_eq_true rfl)) rfl rfl hl.1 (Nat.le_of_ble_eq_true rfl) (Nat.zero_le _) (Nat.zero_le _) dX4_settle_140 ?_
    refine xp_X4_90 C hM hk_15 dX4_settle_143 (fun H locs hM => ?_)
    exact ret _ _ _ _ _ hM dX4_settle_146 hf
  have J_87 : ∀ (v1_87 : Int64) (σ_87 : XS), (f_X4_settle σ q0) = f_X4_settle_87 σ q0 v1_87 σ_87 → of_X4_settle_87 σ q0 v1_87 σ_87 → ∀ (H : Heap) (locs : List Loc) (ls : Array Slot), HX D a x e0 A σ_87 s.heap H locs → lv_has ls 3 [(0, .ref q0), (1, .long v1_87)] → W p l e R s m args below meth c H locs 0 0 Q (F0 m 87 ls []) := by
    intro v1_87 σ_87 hf hok H locs ls hM hl
    refine lv_aload_n hx hb dX4_settle_87 rfl (lv_at hl 0 rfl) ?_
    refine lv_ldc2 (v := 10) hx hb hown (hts _ q_539) dX4_settle_88 ?_
    refine lv_lload_n hx hb dX4_settle_91 rfl (lv_at hl 1 rfl) ?_
    refine lv_lmul hx hb dX4_settle_92 ?_
    refine lv_aload_n hx hb dX4_settle_93 rfl (lv_at hl 0 rfl) ?_
    have hk_12 := And.left hok
    have hok := And.right hok
    refine xg_X4_7 C hM hk_12 dX4_settle_94 ?_
    refine lv_i2l (v := ((xi σ_87 101 q0).toInt64)) hx hb dX4_settle_97 rfl ?_
    refine lv_lmul hx hb dX4_settle_98 ?_
    refine lv_aload_n hx hb dX4_settle_99 rfl (lv_at hl 0 rfl) ?_
    refine xg_X4_16 C hM hk_12 dX4_settle_100 ?_
    have ok_13 := And.left hok
    have hok := And.right hok
    refine cc_Z (av := [.long ((10 * v1_87) * ((xi σ_87 101 q0).toInt64)), .long (xj σ_87 103 q0)]) C hE (k_X10_divided l D a ((10 * v1_87) * ((xi σ_87 101 q0).toInt64)) (xj σ_87 103 q0) ok_13) cw_X4_64 (okR_of hRf hRl (Nat.le_of_ble_eq_true rfl) (Nat.le_of_ble_eq_true rfl)) rfl rfl hl.1 (Nat.le_of_ble_eq_true rfl) (Nat.zero_le _) (Nat.zero_le _) dX4_settle_103 ?_
    refine xp_X4_82 C hM hk_12 dX4_settle_106 (fun H locs hM => ?_)
    refine lv_aload_n hx hb dX4_settle_109 rfl (lv_at hl 0 rfl) ?_
    refine lv_aload_n hx hb dX4_settle_110 rfl (lv_at hl 0 rfl) ?_
    refine xg_X4_20 C hM hk_12 dX4_settle_111 ?_
    refine lv_aload_n hx hb dX4_settle_114 rfl (lv_at hl 0 rfl) ?_
    refine xg_X4_7 C hM hk_12 dX4_settle_115 ?_
    refine lv_i2l (v := ((xi σ_87 101 q0).toInt64)) hx hb dX4_settle_118 rfl ?_
    have ok_14 := And.left hok
    have hok := And.right hok
    refine cc_Z (av := [.long (xj σ_87 104 q0), .long ((xi σ_87 101 q0).toInt64)]) C hE (k_X10_divided l D a (xj σ_87 104 q0) ((xi σ_87 101 q0).toInt64) ok_14) cw_X4_64 (okR_of hRf hRl (Nat.le_of_ble_eq_true rfl) (Nat.le_of_ble_eq_true rfl)) rfl rfl hl.1 (Nat.le_of_ble_eq_true rfl) (Nat.zero_le _) (Nat.zero_le _) dX4_settle_119 ?_
    refine xp_X4_85 C hM hk_12 dX4_settle_122 (fun H locs hM => ?_)
    exact J_125 (xJ (xJ σ_87 110 q0 (f_X10_divided ((10 * v1_87) * ((xi σ_87 101 q0).toInt64)) (xj σ_87 103 q0))) 111 q0 (f_X10_divided (xj σ_87 104 q0) ((xi σ_87 101 q0).toInt64))) hf hok _ _ ls hM (lv_sub hl [0] rfl)
  have J_48 : ∀ (σ_48 : XS), (f_X4_settle σ q0) = f_X4_settle_48 σ q0 σ_48 → of_X4_settle_48 σ q0 σ_48 → ∀ (H : Heap) (locs : List Loc) (ls : Array Slot), HX D a x e0 A σ_48 s.heap H locs → lv_has ls 3 [(0, .ref q0)] → W p l e R s m args below meth c H locs 0 0 Q (F0 m 48 ls []) := by
    intro σ_48 hf hok H locs ls hM hl
    refine lv_aload_n hx hb dX4_settle_48 rfl (lv_at hl 0 rfl) ?_
    refine lv_aload_n hx hb dX4_settle_49 rfl (lv_at hl 0 rfl) ?_
    have hk_5 := And.left hok
    have hok := And.right hok
    refine xg_X4_35 C hM hk_5 dX4_settle_50 ?_
    refine lv_aload_n hx hb dX4_settle_53 rfl (lv_at hl 0 rfl) ?_
    refine xg_X4_13 C hM hk_5 dX4_settle_54 ?_
    refine lv_i2l (v := ((xi σ_48 102 q0).toInt64)) hx hb dX4_settle_57 rfl ?_
    have ok_6 := And.left hok
    have hok := And.right hok
    refine cc_Z (av := [.long (xj σ_48 109 q0), .long ((xi σ_48 102 q0).toInt64)]) C hE (k_X10_divided l D a (xj σ_48 109 q0) ((xi σ_48 102 q0).toInt64) ok_6) cw_X4_64 (okR_of hRf hRl (Nat.le_of_ble_eq_true rfl) (Nat.le_of_ble_eq_true rfl)) rfl rfl hl.1 (Nat.le_of_ble_eq_true rfl) (Nat.zero_le _) (Nat.zero_le _) dX4_settle_58 ?_
    refine xp_X4_35 C hM hk_5 dX4_settle_61 (fun H locs hM => ?_)
    refine lv_aload_n hx hb dX4_settle_64 rfl (lv_at hl 0 rfl) ?_
    have ok_7 := And.left hok
    have hok := And.right hok
    refine cc_X (av := []) (b := q0) C hE hM (k_X4_flightX l D a x e0 A (xJ σ_48 109 q0 (f_X10_divided (xj σ_48 109 q0) ((xi σ_48 102 q0).toInt64))) q0 ok_7) cw_X4_69 (okR_of hRf hRl (Nat.le_of_ble_eq_true rfl) (Nat.le_of_ble_eq_true rfl)) (xr_at (K := 5) C hM hk_5 (by decide) rfl) rfl rfl hl.1 (Nat.le_of_ble_eq_true rfl) (Nat.zero_le _) (Nat.zero_le _) dX4_settle_65 ?_
    refine lv_aload_n hx hb dX4_settle_68 rfl (lv_at hl 0 rfl) ?_
    have ok_8 := And.left hok
    have hok := And.right hok
    refine cc_X (av := []) (b := q0) C hE hM (k_X4_flightX l D a x e0 A (xJ σ_48 109 q0 (f_X10_divided (xj σ_48 109 q0) ((xi σ_48 102 q0).toInt64))) q0 ok_8) cw_X4_69 (okR_of hRf hRl (Nat.le_of_ble_eq_true rfl) (Nat.le_of_ble_eq_true rfl)) (xr_at (K := 5) C hM hk_5 (by decide) rfl) rfl rfl hl.1 (Nat.le_of_ble_eq_true rfl) (Nat.zero_le _) (Nat.zero_le _) dX4_settle_69 ?_
    refine lv_lmul hx hb dX4_settle_72 ?_
    refine lv_aload_n hx hb dX4_settle_73 rfl (lv_at hl 0 rfl) ?_
    have ok_9 := And.left hok
    have hok := And.right hok
    refine cc_X (av := []) (b := q0) C hE hM (k_X4_flightY l D a x e0 A (xJ σ_48 109 q0 (f_X10_divided (xj σ_48 109 q0) ((xi σ_48 102 q0).toInt64))) q0 ok_9) cw_X4_73 (okR_of hRf hRl (Nat.le_of_ble_eq_true rfl) (Nat.le_of_ble_eq_true rfl)) (xr_at (K := 5) C hM hk_5 (by decide) rfl) rfl rfl hl.1 (Nat.le_of_ble_eq_true rfl) (Nat.zero_le _) (Nat.zero_le _) dX4_settle_74 ?_
    refine lv_aload_n hx hb dX4_settle_77 rfl (lv_at hl 0 rfl) ?_
    have ok_10 := And.left hok
    have hok := And.right hok
    refine cc_X (av := []) (b := q0) C hE hM (k_X4_flightY l D a x e0 A (xJ σ_48 109 q0 (f_X10_divided (xj σ_48 109 q0) ((xi σ_48 102 q0).toInt64))) q0 ok_10) cw_X4_73 (okR_of hRf hRl (Nat.le_of_ble_eq_true rfl) (Nat.le_of_ble_eq_true rfl)) (xr_at (K := 5) C hM hk_5 (by decide) rfl) rfl rfl hl.1 (Nat.le_of_ble_eq_true rfl) (Nat.zero_le _) (Nat.zero_le _) dX4_settle_78 ?_
    refine lv_lmul hx hb dX4_settle_81 ?_
    refine lv_ladd hx hb dX4_settle_82 ?_
    have ok_11 := And.left hok
    have hok := And.right hok
    refine cc_Z (av := [.long (((f_X4_flightX (xJ σ_48 109 q0 (f_X10_divided (xj σ_48 109 q0) ((xi σ_48 102 q0).toInt64))) q0) * (f_X4_flightX (xJ σ_48 109 q0 (f_X10_divided (xj σ_48 109 q0) ((xi σ_48 102 q0).toInt64))) q0)) + ((f_X4_flightY (xJ σ_48 109 q0 (f_X10_divided (xj σ_48 109 q0) ((xi σ_48 102 q0).toInt64))) q0) * (f_X4_flightY (xJ σ_48 109 q0 (f_X10_divided (xj σ_48 109 q0) ((xi σ_48 102 q0).toInt64))) q0)))]) C hE (k_X10_rootOf l D a (((f_X4_flightX (xJ σ_48 109 q0 (f_X10_divided (xj σ_48 109 q0) ((xi σ_48 102 q0).toInt64))) q0) * (f_X4_flightX (xJ σ_48 109 q0 (f_X10_divided (xj σ_48 109 q0) ((xi σ_48 102 q0).toInt64))) q0)) + ((f_X4_flightY (xJ σ_48 109 q0 (f_X10_divided (xj σ_48 109 q0) ((xi σ_48 102 q0).toInt64))) q0) * (f_X4_flightY (xJ σ_48 109 q0 (f_X10_divided (xj σ_48 109 q0) ((xi σ_48 102 q0).toInt64))) q0))) ok_11) cw_X4_76 (okR_of hRf hRl (Nat.le_of_ble_eq_true rfl) (Nat.le_of_ble_eq_true rfl)) rfl rfl hl.1 (Nat.le_of_ble_eq_true rfl) (Nat.zero_le _) (Nat.zero_le _) dX4_settle_83 ?_
    refine lv_lstore_n (lv' := [(1, .long (f_X10_rootOf (((f_X4_flightX (xJ σ_48 109 q0 (f_X10_divided (xj σ_48 109 q0) ((xi σ_48 102 q0).toInt64))) q0) * (f_X4_flightX (xJ σ_48 109 q0 (f_X10_divided (xj σ_48 109 q0) ((xi σ_48 102 q0).toInt64))) q0)) + ((f_X4_flightY (xJ σ_48 109 q0 (f_X10_divided (xj σ_48 109 q0) ((xi σ_48 102 q0).toInt64))) q0) * (f_X4_flightY (xJ σ_48 109 q0 (f_X10_divided (xj σ_48 109 q0) ((xi σ_48 102 q0).toInt64))) q0))))), (0, .ref q0)]) hx hb dX4_settle_86 rfl hl (by decide) rfl (fun ls hl => ?_)
    exact J_87 (f_X10_rootOf (((f_X4_flightX (xJ σ_48 109 q0 (f_X10_divided (xj σ_48 109 q0) ((xi σ_48 102 q0).toInt64))) q0) * (f_X4_flightX (xJ σ_48 109 q0 (f_X10_divided (xj σ_48 109 q0) ((xi σ_48 102 q0).toInt64))) q0)) + ((f_X4_flightY (xJ σ_48 109 q0 (f_X10_divided (xj σ_48 109 q0) ((xi σ_48 102 q0).toInt64))) q0) * (f_X4_flightY (xJ σ_48 109 q0 (f_X10_divided (xj σ_48 109 q0) ((xi σ_48 102 q0).toInt64))) q0)))) (xJ σ_48 109 q0 (f_X10_divided (xj σ_48 109 q0) ((xi σ_48 102 q0).toInt64))) hf hok _ _ ls hM (lv_sub hl [1, 0] rfl)
  refine lv_aload_n hx hb dX4_settle_0 rfl (lv_at hl 0 rfl) ?_
  refine lv_aload_n hx hb dX4_settle_1 rfl (lv_at hl 0 rfl) ?_
  have hk_1 := And.left hok
  have hok := And.right hok
  refine xg_X4_26 C hM hk_1 dX4_settle_2 ?_
  refine lv_aload_n hx hb dX4_settle_5 rfl (lv_at hl 0 rfl) ?_
  refine xg_X4_13 C hM hk_1 dX4_settle_6 ?_
  refine lv_i2l (v := ((xi σ 102 q0).toInt64)) hx hb dX4_settle_9 rfl ?_
  have ok_2 := And.left hok
  have hok := And.right hok
  refine cc_Z (av := [.long (xj σ 106 q0), .long ((xi σ 102 q0).toInt64)]) C hE (k_X10_divided l D a (xj σ 106 q0) ((xi σ 102 q0).toInt64) ok_2) cw_X4_64 (okR_of hRf hRl (Nat.le_of_ble_eq_true rfl) (Nat.le_of_ble_eq_true rfl)) rfl rfl hl.1 (Nat.le_of_ble_eq_true rfl) (Nat.zero_le _) (Nat.zero_le _) dX4_settle_10 ?_
  refine xp_X4_26 C hM hk_1 dX4_settle_13 (fun H locs hM => ?_)
  refine lv_aload_n hx hb dX4_settle_16 rfl (lv_at hl 0 rfl) ?_
  refine lv_aload_n hx hb dX4_settle_17 rfl (lv_at hl 0 rfl) ?_
  refine xg_X4_29 C hM hk_1 dX4_settle_18 ?_
  refine lv_aload_n hx hb dX4_settle_21 rfl (lv_at hl 0 rfl) ?_
  refine xg_X4_13 C hM hk_1 dX4_settle_22 ?_
  refine lv_i2l (v := ((xi σ 102 q0).toInt64)) hx hb dX4_settle_25 rfl ?_
  have ok_3 := And.left hok
  have hok := And.right hok
  refine cc_Z (av := [.long (xj σ 107 q0), .long ((xi σ 102 q0).toInt64)]) C hE (k_X10_divided l D a (xj σ 107 q0) ((xi σ 102 q0).toInt64) ok_3) cw_X4_64 (okR_of hRf hRl (Nat.le_of_ble_eq_true rfl) (Nat.le_of_ble_eq_true rfl)) rfl rfl hl.1 (Nat.le_of_ble_eq_true rfl) (Nat.zero_le _) (Nat.zero_le _) dX4_settle_26 ?_
  refine xp_X4_29 C hM hk_1 dX4_settle_29 (fun H locs hM => ?_)
  refine lv_aload_n hx hb dX4_settle_32 rfl (lv_at hl 0 rfl) ?_
  refine lv_aload_n hx hb dX4_settle_33 rfl (lv_at hl 0 rfl) ?_
  refine xg_X4_32 C hM hk_1 dX4_settle_34 ?_
  refine lv_aload_n hx hb dX4_settle_37 rfl (lv_at hl 0 rfl) ?_
  refine xg_X4_13 C hM hk_1 dX4_settle_38 ?_
  refine lv_i2l (v := ((xi σ 102 q0).toInt64)) hx hb dX4_settle_41 rfl ?_
  have ok_4 := And.left hok
  have hok := And.right hok
  refine cc_Z (av := [.long (xj σ 108 q0), .long ((xi σ 102 q0).toInt64)]) C hE (k_X10_divided l D a (xj σ 108 q0) ((xi σ 102 q0).toInt64) ok_4) cw_X4_64 (okR_of hRf hRl (Nat.le_of_ble_eq_true rfl) (Nat.le_of_ble_eq_true rfl)) rfl rfl hl.1 (Nat.le_of_ble_eq_true rfl) (Nat.zero_le _) (Nat.zero_le _) dX4_settle_42 ?_
  refine xp_X4_32 C hM hk_1 dX4_settle_45 (fun H locs hM => ?_)
  exact J_48 (xJ (xJ (xJ σ 106 q0 (f_X10_divided (xj σ 106 q0) ((xi σ 102 q0).toInt64))) 107 q0 (f_X10_divided (xj σ 107 q0) ((xi σ 102 q0).toInt64))) 108 q0 (f_X10_divided (xj σ 108 q0) ((xi σ 102 q0).toInt64))) hf hok _ _ ls hM (lv_sub hl [0] rfl)
def f_X4_number (σ : XS) (q0 : Nat) (p1 : Int32) : Int64 := (if p1 = 0 then ((xi σ 101 q0).toInt64) else (if p1 = 1 then (xj σ 106 q0) else (if p1 = 2 then (xj σ 107 q0) else (if p1 = 3 then (xj σ 108 q0) else (if p1 = 4 then (xj σ 109 q0) else (if p1 = 5 then (xj σ 110 q0) else (if p1 = 6 then (xj σ 111 q0) else (xj σ 112 q0))))))))
def of_X4_number (σ : XS) (q0 : Nat) (p1 : Int32) : Prop := (oif (p1 = 0) ((xk σ q0) = 5 ∧ True) (oif (p1 = 1) ((xk σ q0) = 5 ∧ True) (oif (p1 = 2) ((xk σ q0) = 5 ∧ True) (oif (p1 = 3) ((xk σ q0) = 5 ∧ True) (oif (p1 = 4) ((xk σ q0) = 5 ∧ True) (oif (p1 = 5) ((xk σ q0) = 5 ∧ True) (oif (p1 = 6) ((xk σ q0) = 5 ∧ True) ((xk σ q0) = 5 ∧ True))))))))
set_option maxHeartbeats 4000000 in
set_option maxRecDepth 100000 in
theorem k_X4_number (l : Launch) (D : va_G) (a : Nat → ClassId) (x : Nat) (e0 : Nat) (A : Nat → Prop) (σ : XS) (q0 : Nat) (p1 : Int32) (hok : of_X4_number σ q0 p1) : K0 l yX4_number cX4_number 2 ((some .long)) 0 0 [.ref q0, .int p1] (BX D a x e0 A σ) (.long (f_X4_number σ q0 p1)) := by
  refine go0l (D := D) (a := a) (by decide +kernel) (fun _ h => h.1.1) (Nat.le_of_ble_eq_true rfl) ?_
  intro p e s m args below meth c ls R Q hRf hRl C hl hB
  obtain ⟨hB, ret⟩ := hB
  have hE := hB.1
  have hM : HX D a x e0 A σ s.heap s.heap [] := ⟨hB.2, va_S.rf⟩
  have hl : lv_has ls 2 [(0, .ref q0), (1, .int p1)] := hl
  have hx := C.1.1
  have hb := C.1.2.1
  have hts := C.1.2.2.2.2
  have hown := C.1.2.2.2.1
  have hf : (f_X4_number σ q0 p1) = (f_X4_number σ q0 p1) := rfl
  refine lv_iload_n hx hb dX4_number_0 rfl (lv_at hl 1 rfl) ?_
  by_cases c_1 : p1 = 0
  · have hf := hf.trans (if_pos c_1)
    have hok := oif_pos hok c_1
    refine sw_in (tgt := 44) hx hb dX4_number_1 c_1 (by decide) (by decide) rfl (by decide) ?_
    refine lv_aload_n hx hb dX4_number_44 rfl (lv_at hl 0 rfl) ?_
    have hk_2 := And.left hok
    have hok := And.right hok
    refine xg_X4_7 C hM hk_2 dX4_number_45 ?_
    refine lv_i2l (v := ((xi σ 101 q0).toInt64)) hx hb dX4_number_48 rfl ?_
    exact ret _ _ _ dX4_number_49 hf
  · have hf := hf.trans (if_neg c_1)
    have hok := oif_neg hok c_1
    by_cases c_3 : p1 = 1
    · have hf := hf.trans (if_pos c_3)
      have hok := oif_pos hok c_3
      refine sw_in (tgt := 50) hx hb dX4_number_1 c_3 (by decide) (by decide) rfl (by decide) ?_
      refine lv_aload_n hx hb dX4_number_50 rfl (lv_at hl 0 rfl) ?_
      have hk_4 := And.left hok
      have hok := And.right hok
      refine xg_X4_26 C hM hk_4 dX4_number_51 ?_
      exact ret _ _ _ dX4_number_54 hf
    · have hf := hf.trans (if_neg c_3)
      have hok := oif_neg hok c_3
      by_cases c_5 : p1 = 2
      · have hf := hf.trans (if_pos c_5)
        have hok := oif_pos hok c_5
        refine sw_in (tgt := 55) hx hb dX4_number_1 c_5 (by decide) (by decide) rfl (by decide) ?_
        refine lv_aload_n hx hb dX4_number_55 rfl (lv_at hl 0 rfl) ?_
        have hk_6 := And.left hok
        have hok := And.right hok
        refine xg_X4_29 C hM hk_6 dX4_number_56 ?_
        exact ret _ _ _ dX4_number_59 hf
      · have hf := hf.trans (if_neg c_5)
        have hok := oif_neg hok c_5
        by_cases c_7 : p1 = 3
        · have hf := hf.trans (if_pos c_7)
          have hok := oif_pos hok c_7
          refine sw_in (tgt := 60) hx hb dX4_number_1 c_7 (by decide) (by decide) rfl (by decide) ?_
          refine lv_aload_n hx hb dX4_number_60 rfl (lv_at hl 0 rfl) ?_
          have hk_8 := And.left hok
          have hok := And.right hok
          refine xg_X4_32 C hM hk_8 dX4_number_61 ?_
          exact ret _ _ _ dX4_number_64 hf
        · have hf := hf.trans (if_neg c_7)
          have hok := oif_neg hok c_7
          by_cases c_9 : p1 = 4
          · have hf := hf.trans (if_pos c_9)
            have hok := oif_pos hok c_9
            refine sw_in (tgt := 65) hx hb dX4_number_1 c_9 (by decide) (by decide) rfl (by decide) ?_
            refine lv_aload_n hx hb dX4_number_65 rfl (lv_at hl 0 rfl) ?_
            have hk_10 := And.left hok
            have hok := And.right hok
            refine xg_X4_35 C hM hk_10 dX4_number_66 ?_
            exact ret _ _ _ dX4_number_69 hf
          · have hf := hf.trans (if_neg c_9)
            have hok := oif_neg hok c_9
            by_cases c_11 : p1 = 5
            · have hf := hf.trans (if_pos c_11)
              have hok := oif_pos hok c_11
              refine sw_in (tgt := 70) hx hb dX4_number_1 c_11 (by decide) (by decide) rfl (by decide) ?_
              refine lv_aload_n hx hb dX4_number_70 rfl (lv_at hl 0 rfl) ?_
              have hk_12 := And.left hok
              have hok := And.right hok
              refine xg_X4_82 C hM hk_12 dX4_number_71 ?_
              exact ret _ _ _ dX4_number_74 hf
            · have hf := hf.trans (if_neg c_11)
              have hok := oif_neg hok c_11
              by_cases c_13 : p1 = 6
              · have hf := hf.trans (if_pos c_13)
                have hok := oif_pos hok c_13
                refine sw_in (tgt := 75) hx hb dX4_number_1 c_13 (by decide) (by decide) rfl (by decide) ?_
                refine lv_aload_n hx hb dX4_number_75 rfl (lv_at hl 0 rfl) ?_
                have hk_14 := And.left hok
                have hok := And.right hok
                refine xg_X4_85 C hM hk_14 dX4_number_76 ?_
                exact ret _ _ _ dX4_number_79 hf
              · have hf := hf.trans (if_neg c_13)
                have hok := oif_neg hok c_13
                refine lv_tableOut (tgt := 80) hx hb dX4_number_1 (by have e0 := lv_neT c_1 (a := 0) (by decide); have e1 := lv_neT c_3 (a := 1) (by decide); have e2 := lv_neT c_5 (a := 2) (by decide); have e3 := lv_neT c_7 (a := 3) (by decide); have e4 := lv_neT c_9 (a := 4) (by decide); have e5 := lv_neT c_11 (a := 5) (by decide); have e6 := lv_neT c_13 (a := 6) (by decide); omega) (by decide) ?_
                refine lv_aload_n hx hb dX4_number_80 rfl (lv_at hl 0 rfl) ?_
                have hk_15 := And.left hok
                have hok := And.right hok
                refine xg_X4_90 C hM hk_15 dX4_number_81 ?_
                exact ret _ _ _ dX4_number_84 hf
def f_X4_isAsFastAs (σ : XS) (q0 : Nat) (p1 : Nat) : Int32 := (if 0 < (lg_cmp (10 * (f_J9_abs_067f4 ((xj σ 110 q0) - (xj σ 110 p1)))) (f_J9_max_f86c9 (xj σ 110 q0) (xj σ 110 p1))) then 0 else 1)
def of_X4_isAsFastAs (σ : XS) (q0 : Nat) (p1 : Nat) : Prop := ((xk σ q0) = 5 ∧ ((xk σ p1) = 5 ∧ True))
def f_X4_fliesLike_41 (σ : XS) (q0 : Nat) (p1 : Nat) (v2_41 : Int64) (v4_41 : Int64) : Int32 := (if (lg_cmp v4_41 0) ≤ 0 then 0 else (if 0 < (lg_cmp (10 * (f_J9_abs_067f4 v2_41)) v4_41) then 0 else 1))
def f_X4_fliesLike (σ : XS) (q0 : Nat) (p1 : Nat) : Int32 := (f_X4_fliesLike_41 σ q0 p1 (((f_X4_flightX σ q0) * (f_X4_flightY σ p1)) - ((f_X4_flightY σ q0) * (f_X4_flightX σ p1))) (((f_X4_flightX σ q0) * (f_X4_flightX σ p1)) + ((f_X4_flightY σ q0) * (f_X4_flightY σ p1))))
def of_X4_fliesLike (σ : XS) (q0 : Nat) (p1 : Nat) : Prop := (of_X4_flightX σ q0 ∧ ((xk σ q0) = 5 ∧ (of_X4_flightY σ p1 ∧ ((xk σ p1) = 5 ∧ (of_X4_flightY σ q0 ∧ (of_X4_flightX σ p1 ∧ (of_X4_flightX σ q0 ∧ (of_X4_flightX σ p1 ∧ (of_X4_flightY σ q0 ∧ (of_X4_flightY σ p1 ∧ True))))))))))
def f_X5_init (σ : XS) (q0 : Nat) (p1 : Int32) (p2 : Int32) : Unit × XS := ((), (xI (xI σ 120 q0 p1) 121 q0 p2))
def of_X5_init (σ : XS) (q0 : Nat) (p1 : Int32) (p2 : Int32) : Prop := ((xk σ q0) = 6 ∧ True)
def f_X5_groupOf (σ : XS) (q0 : Nat) (p1 : Int32) : Int32 := (if p1 < (xi σ 120 q0) then (if p1 < (xi σ 121 q0) then 300 else 200) else 100)
def of_X5_groupOf (σ : XS) (q0 : Nat) (p1 : Int32) : Prop := ((xk σ q0) = 6 ∧ True)
def f_X6_init (σ : XS) (q0 : Nat) (p1 : Nat) (p2 : Int32) (p3 : Int32) (p4 : Int32) (p5 : Int32) : Unit × XS := ((), (xI (xI (xI (xI (xR (xI σ 150 q0 (-1)) 140 q0 p1) 141 q0 p2) 142 q0 p3) 143 q0 p4) 144 q0 p5))
def of_X6_init (σ : XS) (q0 : Nat) (p1 : Nat) (p2 : Int32) (p3 : Int32) (p4 : Int32) (p5 : Int32) : Prop := ((xk σ q0) = 7 ∧ ((xk σ p1) = 1 ∧ True))
set_option maxHeartbeats 4000000 in
set_option maxRecDepth 100000 in
theorem k_X6_init (l : Launch) (D : va_G) (a : Nat → ClassId) (x : Nat) (e0 : Nat) (A : Nat → Prop) (σ : XS) (q0 : Nat) (p1 : Nat) (p2 : Int32) (p3 : Int32) (p4 : Int32) (p5 : Int32) (hok : of_X6_init σ q0 p1 p2 p3 p4 p5) : KX l D a x e0 A yX6_init cX6_init 6 none 1 30 0 0 [.ref q0, .ref p1, .int p2, .int p3, .int p4, .int p5] σ (fun _ => none) (fun _ => f_X6_init σ q0 p1 p2 p3 p4 p5) := by
  refine goXv (by decide +kernel) (Nat.le_of_ble_eq_true rfl) ?_
  intro p e s m args below meth c ls R Q nq hRf hRl hRc hRs hnq C hE hM hl hmn ret
  have hmn := hmn rfl
  have hl : lv_has ls 6 [(0, .ref q0), (1, .ref p1), (2, .int p2), (3, .int p3), (4, .int p4), (5, .int p5)] := hl
  have hx := C.1.1
  have hb := C.1.2.1
  have hts := C.1.2.2.2.2
  have hown := C.1.2.2.2.1
  have hf : (f_X6_init σ q0 p1 p2 p3 p4 p5) = (f_X6_init σ q0 p1 p2 p3 p4 p5) := rfl
  refine lv_aload_n hx hb dX6_init_0 rfl (lv_at hl 0 rfl) ?_
  refine ox_init C q_563 hl.1 (by rw [hRf]; exact Nat.le_of_ble_eq_true rfl) (by rw [hRl]; exact Nat.le_of_ble_eq_true rfl) dX6_init_1 ?_
  refine lv_aload_n hx hb dX6_init_4 rfl (lv_at hl 0 rfl) ?_
  refine lv_iconst (v := (-1)) hx hb dX6_init_5 (by decide) ?_
  have hk_1 := And.left hok
  have hok := And.right hok
  refine xp_X6_9 C hM hk_1 dX6_init_6 (fun H locs hM => ?_)
  refine lv_aload_n hx hb dX6_init_9 rfl (lv_at hl 0 rfl) ?_
  refine lv_aload_n hx hb dX6_init_10 rfl (lv_at hl 1 rfl) ?_
  have hk_2 := And.left hok
  have hok := And.right hok
  refine fromRef (xne0 hM.1 hk_2 (by decide)) ?_
  refine xp_X6_15 C hM hk_1 hmn dX6_init_11 (fun H locs hM => ?_)
  refine lv_aload_n hx hb dX6_init_14 rfl (lv_at hl 0 rfl) ?_
  refine lv_iload_n hx hb dX6_init_15 rfl (lv_at hl 2 rfl) ?_
  refine xp_X6_19 C hM hk_1 hmn dX6_init_16 (fun H locs hM => ?_)
  refine lv_aload_n hx hb dX6_init_19 rfl (lv_at hl 0 rfl) ?_
  refine lv_iload_n hx hb dX6_init_20 rfl (lv_at hl 3 rfl) ?_
  refine xp_X6_22 C hM hk_1 hmn dX6_init_21 (fun H locs hM => ?_)
  refine lv_aload_n hx hb dX6_init_24 rfl (lv_at hl 0 rfl) ?_
  refine lv_iload hx hb dX6_init_25 (lv_at hl 4 rfl) ?_
  refine xp_X6_25 C hM hk_1 hmn dX6_init_27 (fun H locs hM => ?_)
  refine lv_aload_n hx hb dX6_init_30 rfl (lv_at hl 0 rfl) ?_
  refine lv_iload hx hb dX6_init_31 (lv_at hl 5 rfl) ?_
  refine xp_X6_28 C hM hk_1 hmn dX6_init_33 (fun H locs hM => ?_)
  exact ret _ _ _ _ _ hM dX6_init_36 hf
def f_X6_counts (σ : XS) (q0 : Nat) : Int32 := (if 30 < (xi σ 143 q0) then 0 else (if (xi σ 144 q0) < 50 then 0 else 1))
def of_X6_counts (σ : XS) (q0 : Nat) : Prop := ((xk σ q0) = 7 ∧ True)
set_option maxHeartbeats 4000000 in
set_option maxRecDepth 100000 in
theorem k_X6_counts (l : Launch) (D : va_G) (a : Nat → ClassId) (x : Nat) (e0 : Nat) (A : Nat → Prop) (σ : XS) (q0 : Nat) (hok : of_X6_counts σ q0) : K0 l yX6_counts cX6_counts 1 ((some .boolean)) 0 0 [.ref q0] (BX D a x e0 A σ) (.int (f_X6_counts σ q0)) := by
  refine go0z (D := D) (a := a) (by decide +kernel) (fun _ h => h.1.1) (Nat.le_of_ble_eq_true rfl) ?_
  intro p e s m args below meth c ls R Q hRf hRl C hl hB
  obtain ⟨hB, ret⟩ := hB
  have hE := hB.1
  have hM : HX D a x e0 A σ s.heap s.heap [] := ⟨hB.2, va_S.rf⟩
  have hl : lv_has ls 1 [(0, .ref q0)] := hl
  have hx := C.1.1
  have hb := C.1.2.1
  have hts := C.1.2.2.2.2
  have hown := C.1.2.2.2.1
  have hf : (f_X6_counts σ q0) = (f_X6_counts σ q0) := rfl
  refine lv_aload_n hx hb dX6_counts_0 rfl (lv_at hl 0 rfl) ?_
  have hk_1 := And.left hok
  have hok := And.right hok
  refine xg_X6_25 C hM hk_1 dX6_counts_1 ?_
  refine lv_bipush (v := 30) hx hb dX6_counts_4 (by decide) ?_
  refine lv_icmp_gt (tgt := 22) hx hb dX6_counts_6 (by decide) (fun c_2 => ?_) (fun c_2 => ?_)
  · have hf := hf.trans (if_pos c_2)
    refine lv_iconst (v := 0) hx hb dX6_counts_22 (by decide) ?_
    exact ret _ _ _ dX6_counts_23 (by unfold zb; decide) hf
  · have hf := hf.trans (if_neg c_2)
    refine lv_aload_n hx hb dX6_counts_9 rfl (lv_at hl 0 rfl) ?_
    refine xg_X6_28 C hM hk_1 dX6_counts_10 ?_
    refine lv_bipush (v := 50) hx hb dX6_counts_13 (by decide) ?_
    refine lv_icmp_lt (tgt := 22) hx hb dX6_counts_15 (by decide) (fun c_3 => ?_) (fun c_3 => ?_)
    · have hf := hf.trans (if_pos c_3)
      refine lv_iconst (v := 0) hx hb dX6_counts_22 (by decide) ?_
      exact ret _ _ _ dX6_counts_23 (by unfold zb; decide) hf
    · have hf := hf.trans (if_neg c_3)
      refine lv_iconst (v := 1) hx hb dX6_counts_18 (by decide) ?_
      refine lv_goto (tgt := 23) hx hb dX6_counts_19 (by decide) ?_
      exact ret _ _ _ dX6_counts_23 (by unfold zb; decide) hf
def f_X6_rightSecond (σ : XS) (q0 : Nat) : Int32 := ((xi σ 142 q0) - (xi σ 22 (xr σ 140 q0)))
def of_X6_rightSecond (σ : XS) (q0 : Nat) : Prop := ((xk σ q0) = 7 ∧ ((xk σ (xr σ 140 q0)) = 1 ∧ True))
set_option maxHeartbeats 4000000 in
set_option maxRecDepth 100000 in
theorem k_X6_rightSecond (l : Launch) (D : va_G) (a : Nat → ClassId) (x : Nat) (e0 : Nat) (A : Nat → Prop) (σ : XS) (q0 : Nat) (hok : of_X6_rightSecond σ q0) : K0 l yX6_rightSecond cX6_rightSecond 1 ((some .int)) 0 0 [.ref q0] (BX D a x e0 A σ) (.int (f_X6_rightSecond σ q0)) := by
  refine go0i (D := D) (a := a) (by decide +kernel) (fun _ h => h.1.1) (Nat.le_of_ble_eq_true rfl) ?_
  intro p e s m args below meth c ls R Q hRf hRl C hl hB
  obtain ⟨hB, ret⟩ := hB
  have hE := hB.1
  have hM : HX D a x e0 A σ s.heap s.heap [] := ⟨hB.2, va_S.rf⟩
  have hl : lv_has ls 1 [(0, .ref q0)] := hl
  have hx := C.1.1
  have hb := C.1.2.1
  have hts := C.1.2.2.2.2
  have hown := C.1.2.2.2.1
  have hf : (f_X6_rightSecond σ q0) = (f_X6_rightSecond σ q0) := rfl
  refine lv_aload_n hx hb dX6_rightSecond_0 rfl (lv_at hl 0 rfl) ?_
  have hk_1 := And.left hok
  have hok := And.right hok
  refine xg_X6_22 C hM hk_1 dX6_rightSecond_1 ?_
  refine lv_aload_n hx hb dX6_rightSecond_4 rfl (lv_at hl 0 rfl) ?_
  refine xg_X6_15 C hM hk_1 dX6_rightSecond_5 ?_
  have hk_2 := And.left hok
  have hok := And.right hok
  refine toRef (xne0 hM.1 hk_2 (by decide)) ?_
  refine xg_X6_31 C hM hk_2 dX6_rightSecond_8 ?_
  refine lv_isub hx hb dX6_rightSecond_11 ?_
  exact ret _ _ _ dX6_rightSecond_12 hf
def f_J9_abs_0f7a4 (p1 : Int32) : Int32 := (if 0 ≤ p1 then p1 else (-p1))
set_option maxHeartbeats 4000000 in
set_option maxRecDepth 100000 in
theorem k_J9_abs_0f7a4 (l : Launch) (D : va_G) (a : Nat → ClassId) (p1 : Int32) : K0 l yJ9_abs_0f7a4 cJ9_abs_0f7a4 1 ((some .int)) 0 0 [.int p1] (BK D a) (.int (f_J9_abs_0f7a4 p1)) := by
  refine go0iF (D := D) (a := a) (mPlain rfl (by decide +kernel)) (fun _ h => h) (Nat.le_of_ble_eq_true rfl) ?_
  intro p e s m args below meth c ls R Q hRf hRl C hl hB
  obtain ⟨-, ret⟩ := hB
  have hl : lv_has ls 1 [(0, .int p1)] := hl
  have hx := C.1.1
  have hb := C.1.2.1
  have hts := C.1.2.2.2.2
  have hown := C.1.2.2.2.1
  have hf : (f_J9_abs_0f7a4 p1) = (f_J9_abs_0f7a4 p1) := rfl
  refine lv_iload_n hx hb dJ9_abs_0f7a4_0 rfl (lv_at hl 0 rfl) ?_
  refine lv_if_ge (tgt := 9) hx hb dJ9_abs_0f7a4_1 (by decide) (fun c_1 => ?_) (fun c_1 => ?_)
  · have hf := hf.trans (if_pos c_1)
    refine lv_iload_n hx hb dJ9_abs_0f7a4_9 rfl (lv_at hl 0 rfl) ?_
    exact ret _ _ _ dJ9_abs_0f7a4_10 hf
  · have hf := hf.trans (if_neg c_1)
    refine lv_iload_n hx hb dJ9_abs_0f7a4_4 rfl (lv_at hl 0 rfl) ?_
    refine lv_ineg hx hb dJ9_abs_0f7a4_5 ?_
    refine lv_goto (tgt := 10) hx hb dJ9_abs_0f7a4_6 (by decide) ?_
    exact ret _ _ _ dJ9_abs_0f7a4_10 hf
def f_X6_mayJoin (σ : XS) (q0 : Nat) (p1 : Nat) : Int32 := (if (xi σ 141 q0) = (xi σ 141 p1) then (if (xr σ 140 q0) = (xr σ 140 p1) then 0 else (if (f_X6_counts σ q0) = 0 then 0 else (if (f_X6_counts σ p1) = 0 then 0 else (if 5 < (f_J9_abs_0f7a4 ((f_X6_rightSecond σ q0) - (f_X6_rightSecond σ p1))) then 0 else 1)))) else 0)
def of_X6_mayJoin (σ : XS) (q0 : Nat) (p1 : Nat) : Prop := ((xk σ q0) = 7 ∧ ((xk σ p1) = 7 ∧ (oif ((xi σ 141 q0) = (xi σ 141 p1)) ((xk σ (xr σ 140 q0)) = 1 ∧ ((xk σ (xr σ 140 p1)) = 1 ∧ (oif ((xr σ 140 q0) = (xr σ 140 p1)) True (of_X6_counts σ q0 ∧ (oif ((f_X6_counts σ q0) = 0) True (of_X6_counts σ p1 ∧ (oif ((f_X6_counts σ p1) = 0) True (of_X6_rightSecond σ q0 ∧ (of_X6_rightSecond σ p1 ∧ True))))))))) True)))
set_option maxHeartbeats 4000000 in
set_option maxRecDepth 100000 in
theorem k_X6_mayJoin (l : Launch) (D : va_G) (a : Nat → ClassId) (x : Nat) (e0 : Nat) (A : Nat → Prop) (σ : XS) (q0 : Nat) (p1 : Nat) (hok : of_X6_mayJoin σ q0 p1) : K0 l yX6_mayJoin cX6_mayJoin 2 ((some .boolean)) 1 20 [.ref q0, .ref p1] (BX D a x e0 A σ) (.int (f_X6_mayJoin σ q0 p1)) := by
  refine go0z (D := D) (a := a) (by decide +kernel) (fun _ h => h.1.1) (Nat.le_of_ble_eq_true rfl) ?_
  intro p e s m args below meth c ls R Q hRf hRl C hl hB
  obtain ⟨hB, ret⟩ := hB
  have hE := hB.1
  have hM : HX D a x e0 A σ s.heap s.heap [] := ⟨hB.2, va_S.rf⟩
  have hl : lv_has ls 2 [(0, .ref q0), (1, .ref p1)] := hl
  have hx := C.1.1
  have hb := C.1.2.1
  have hts := C.1.2.2.2.2
  have hown := C.1.2.2.2.1
  have hf : (f_X6_mayJoin σ q0 p1) = (f_X6_mayJoin σ q0 p1) := rfl
  refine lv_aload_n hx hb dX6_mayJoin_0 rfl (lv_at hl 0 rfl) ?_
  have hk_1 := And.left hok
  have hok := And.right hok
  refine xg_X6_19 C hM hk_1 dX6_mayJoin_1 ?_
  refine lv_aload_n hx hb dX6_mayJoin_4 rfl (lv_at hl 1 rfl) ?_
  have hk_2 := And.left hok
  have hok := And.right hok
  refine xg_X6_19 C hM hk_2 dX6_mayJoin_5 ?_
  refine lv_icmp_ne (tgt := 56) hx hb dX6_mayJoin_8 (by decide) (fun c_3 => ?_) (fun c_3 => ?_)
  · have hf := hf.trans (if_neg c_3)
    have hok := oif_neg hok c_3
    refine lv_iconst (v := 0) hx hb dX6_mayJoin_56 (by decide) ?_
    exact ret _ _ _ dX6_mayJoin_57 (by unfold zb; decide) hf
  · have hf := hf.trans (if_pos c_3)
    have hok := oif_pos hok c_3
    refine lv_aload_n hx hb dX6_mayJoin_11 rfl (lv_at hl 0 rfl) ?_
    refine xg_X6_15 C hM hk_1 dX6_mayJoin_12 ?_
    have hk_4 := And.left hok
    have hok := And.right hok
    refine toRef (xne0 hM.1 hk_4 (by decide)) ?_
    refine lv_aload_n hx hb dX6_mayJoin_15 rfl (lv_at hl 1 rfl) ?_
    refine xg_X6_15 C hM hk_2 dX6_mayJoin_16 ?_
    have hk_5 := And.left hok
    have hok := And.right hok
    refine toRef (xne0 hM.1 hk_5 (by decide)) ?_
    refine lx_acmp_eq (tgt := 56) hx hb dX6_mayJoin_19 (by decide) (fun c_6 => ?_) (fun c_6 => ?_)
    · have hf := hf.trans (if_pos c_6)
      have hok := oif_pos hok c_6
      refine lv_iconst (v := 0) hx hb dX6_mayJoin_56 (by decide) ?_
      exact ret _ _ _ dX6_mayJoin_57 (by unfold zb; decide) hf
    · have hf := hf.trans (if_neg c_6)
      have hok := oif_neg hok c_6
      refine lv_aload_n hx hb dX6_mayJoin_22 rfl (lv_at hl 0 rfl) ?_
      have ok_7 := And.left hok
      have hok := And.right hok
      refine cc_X (av := []) (b := q0) C hE hM (k_X6_counts l D a x e0 A σ q0 ok_7) cw_X6_36 (okR_of hRf hRl (Nat.le_of_ble_eq_true rfl) (Nat.le_of_ble_eq_true rfl)) (xr_at (K := 7) C hM hk_1 (by decide) rfl) rfl rfl hl.1 (Nat.le_of_ble_eq_true rfl) (Nat.zero_le _) (Nat.zero_le _) dX6_mayJoin_23 ?_
      refine lv_if_eq (tgt := 56) hx hb dX6_mayJoin_26 (by decide) (fun c_8 => ?_) (fun c_8 => ?_)
      · have hf := hf.trans (if_pos c_8)
        have hok := oif_pos hok c_8
        refine lv_iconst (v := 0) hx hb dX6_mayJoin_56 (by decide) ?_
        exact ret _ _ _ dX6_mayJoin_57 (by unfold zb; decide) hf
      · have hf := hf.trans (if_neg c_8)
        have hok := oif_neg hok c_8
        refine lv_aload_n hx hb dX6_mayJoin_29 rfl (lv_at hl 1 rfl) ?_
        have ok_9 := And.left hok
        have hok := And.right hok
        refine cc_X (av := []) (b := p1) C hE hM (k_X6_counts l D a x e0 A σ p1 ok_9) cw_X6_36 (okR_of hRf hRl (Nat.le_of_ble_eq_true rfl) (Nat.le_of_ble_eq_true rfl)) (xr_at (K := 7) C hM hk_2 (by decide) rfl) rfl rfl hl.1 (Nat.le_of_ble_eq_true rfl) (Nat.zero_le _) (Nat.zero_le _) dX6_mayJoin_30 ?_
        refine lv_if_eq (tgt := 56) hx hb dX6_mayJoin_33 (by decide) (fun c_10 => ?_) (fun c_10 => ?_)
        · have hf := hf.trans (if_pos c_10)
          have hok := oif_pos hok c_10
          refine lv_iconst (v := 0) hx hb dX6_mayJoin_56 (by decide) ?_
          exact ret _ _ _ dX6_mayJoin_57 (by unfold zb; decide) hf
        · have hf := hf.trans (if_neg c_10)
          have hok := oif_neg hok c_10
          refine lv_aload_n hx hb dX6_mayJoin_36 rfl (lv_at hl 0 rfl) ?_
          have ok_11 := And.left hok
          have hok := And.right hok
          refine cc_X (av := []) (b := q0) C hE hM (k_X6_rightSecond l D a x e0 A σ q0 ok_11) cw_X6_40 (okR_of hRf hRl (Nat.le_of_ble_eq_true rfl) (Nat.le_of_ble_eq_true rfl)) (xr_at (K := 7) C hM hk_1 (by decide) rfl) rfl rfl hl.1 (Nat.le_of_ble_eq_true rfl) (Nat.zero_le _) (Nat.zero_le _) dX6_mayJoin_37 ?_
          refine lv_aload_n hx hb dX6_mayJoin_40 rfl (lv_at hl 1 rfl) ?_
          have ok_12 := And.left hok
          have hok := And.right hok
          refine cc_X (av := []) (b := p1) C hE hM (k_X6_rightSecond l D a x e0 A σ p1 ok_12) cw_X6_40 (okR_of hRf hRl (Nat.le_of_ble_eq_true rfl) (Nat.le_of_ble_eq_true rfl)) (xr_at (K := 7) C hM hk_2 (by decide) rfl) rfl rfl hl.1 (Nat.le_of_ble_eq_true rfl) (Nat.zero_le _) (Nat.zero_le _) dX6_mayJoin_41 ?_
          refine lv_isub hx hb dX6_mayJoin_44 ?_
          refine cc_S (av := [.int ((f_X6_rightSecond σ q0) - (f_X6_rightSecond σ p1))]) C (k_J9_abs_0f7a4 l D a ((f_X6_rightSecond σ q0) - (f_X6_rightSecond σ p1))) cw_X6_44 (okR_of hRf hRl (Nat.le_of_ble_eq_true rfl) (Nat.le_of_ble_eq_true rfl)) rfl rfl hl.1 (Nat.le_of_ble_eq_true rfl) (Nat.zero_le _) (Nat.zero_le _) dX6_mayJoin_45 ?_
          refine lv_iconst (v := 5) hx hb dX6_mayJoin_48 (by decide) ?_
          refine lv_icmp_gt (tgt := 56) hx hb dX6_mayJoin_49 (by decide) (fun c_13 => ?_) (fun c_13 => ?_)
          · have hf := hf.trans (if_pos c_13)
            refine lv_iconst (v := 0) hx hb dX6_mayJoin_56 (by decide) ?_
            exact ret _ _ _ dX6_mayJoin_57 (by unfold zb; decide) hf
          · have hf := hf.trans (if_neg c_13)
            refine lv_iconst (v := 1) hx hb dX6_mayJoin_52 (by decide) ?_
            refine lv_goto (tgt := 57) hx hb dX6_mayJoin_53 (by decide) ?_
            exact ret _ _ _ dX6_mayJoin_57 (by unfold zb; decide) hf
def f_X7_init_51 (σ : XS) (q0 : Nat) (p1 : Int32) (p2 : Int32) (p3 : Int32) (p4 : Int32) (p5 : Int32) (p6 : Int32) (p7 : Nat) (σ_51 : XS) : Unit × XS := ((), (xR (xI σ_51 167 q0 p6) 164 q0 p7))
def of_X7_init_51 (σ : XS) (q0 : Nat) (p1 : Int32) (p2 : Int32) (p3 : Int32) (p4 : Int32) (p5 : Int32) (p6 : Int32) (p7 : Nat) (σ_51 : XS) : Prop := ((xk σ_51 q0) = 8 ∧ True)
def f_X7_init (σ : XS) (q0 : Nat) (p1 : Int32) (p2 : Int32) (p3 : Int32) (p4 : Int32) (p5 : Int32) (p6 : Int32) (p7 : Nat) : Unit × XS := (f_X7_init_51 σ q0 p1 p2 p3 p4 p5 p6 p7 (xI (xI (xI (xI (xI (xI (xI (xI (xI σ 168 q0 0) 169 q0 (-1)) 170 q0 (-1)) 173 q0 (-1)) 160 q0 p1) 161 q0 p2) 162 q0 p3) 163 q0 p4) 165 q0 p5))
def of_X7_init (σ : XS) (q0 : Nat) (p1 : Int32) (p2 : Int32) (p3 : Int32) (p4 : Int32) (p5 : Int32) (p6 : Int32) (p7 : Nat) : Prop := ((xk σ q0) = 8 ∧ (of_X7_init_51 σ q0 p1 p2 p3 p4 p5 p6 p7 (xI (xI (xI (xI (xI (xI (xI (xI (xI σ 168 q0 0) 169 q0 (-1)) 170 q0 (-1)) 173 q0 (-1)) 160 q0 p1) 161 q0 p2) 162 q0 p3) 163 q0 p4) 165 q0 p5)))
set_option maxHeartbeats 4000000 in
set_option maxRecDepth 100000 in
theorem k_X7_init (l : Launch) (D : va_G) (a : Nat → ClassId) (x : Nat) (e0 : Nat) (A : Nat → Prop) (σ : XS) (q0 : Nat) (p1 : Int32) (p2 : Int32) (p3 : Int32) (p4 : Int32) (p5 : Int32) (p6 : Int32) (p7 : Nat) (hok : of_X7_init σ q0 p1 p2 p3 p4 p5 p6 p7) : KX l D a x e0 A yX7_init cX7_init 8 none 1 30 0 0 [.ref q0, .int p1, .int p2, .int p3, .int p4, .int p5, .int p6, rv p7] σ (fun _ => none) (fun _ => f_X7_init σ q0 p1 p2 p3 p4 p5 p6 p7) := by
  refine goXv (by decide +kernel) (tb_len7 _ _ _ _ _ _ _ _) ?_
  intro p e s m args below meth c ls R Q nq hRf hRl hRc hRs hnq C hE hM hl hmn ret
  have hmn := hmn rfl
  have hl : lv_has ls 8 [(0, .ref q0), (1, .int p1), (2, .int p2), (3, .int p3), (4, .int p4), (5, .int p5), (6, .int p6), (7, rv p7)] := hl
  have hx := C.1.1
  have hb := C.1.2.1
  have hts := C.1.2.2.2.2
  have hown := C.1.2.2.2.1
  have hf : (f_X7_init σ q0 p1 p2 p3 p4 p5 p6 p7) = (f_X7_init σ q0 p1 p2 p3 p4 p5 p6 p7) := rfl
  have J_51 : ∀ (σ_51 : XS), (f_X7_init σ q0 p1 p2 p3 p4 p5 p6 p7) = f_X7_init_51 σ q0 p1 p2 p3 p4 p5 p6 p7 σ_51 → of_X7_init_51 σ q0 p1 p2 p3 p4 p5 p6 p7 σ_51 → ∀ (H : Heap) (locs : List Loc) (ls : Array Slot), HX D a x e0 A σ_51 s.heap H locs → lv_has ls 8 [(0, .ref q0), (6, .int p6), (7, rv p7)] → W p l e R s m args below meth c H locs 0 0 Q (F0 m 51 ls []) := by
    intro σ_51 hf hok H locs ls hM hl
    refine lv_aload_n hx hb dX7_init_51 rfl (lv_at hl 0 rfl) ?_
    refine lv_iload hx hb dX7_init_52 (lv_at hl 1 rfl) ?_
    have hk_2 := And.left hok
    have hok := And.right hok
    refine xp_X7_39 C hM hk_2 dX7_init_54 (fun H locs hM => ?_)
    refine lv_aload_n hx hb dX7_init_57 rfl (lv_at hl 0 rfl) ?_
    refine lx_aload hx hb dX7_init_58 (lv_at hl 2 rfl) ?_
    refine xp_X7_42 C hM hk_2 hmn dX7_init_60 (fun H locs hM => ?_)
    exact ret _ _ _ _ _ hM dX7_init_63 hf
  refine lv_aload_n hx hb dX7_init_0 rfl (lv_at hl 0 rfl) ?_
  refine ox_init C q_766 hl.1 (by rw [hRf]; exact Nat.le_of_ble_eq_true rfl) (by rw [hRl]; exact Nat.le_of_ble_eq_true rfl) dX7_init_1 ?_
  refine lv_aload_n hx hb dX7_init_4 rfl (lv_at hl 0 rfl) ?_
  refine lv_iconst (v := 0) hx hb dX7_init_5 (by decide) ?_
  have hk_1 := And.left hok
  have hok := And.right hok
  refine xp_X7_9 C hM hk_1 dX7_init_6 (fun H locs hM => ?_)
  refine lv_aload_n hx hb dX7_init_9 rfl (lv_at hl 0 rfl) ?_
  refine lv_iconst (v := (-1)) hx hb dX7_init_10 (by decide) ?_
  refine xp_X7_15 C hM hk_1 dX7_init_11 (fun H locs hM => ?_)
  refine lv_aload_n hx hb dX7_init_14 rfl (lv_at hl 0 rfl) ?_
  refine lv_iconst (v := (-1)) hx hb dX7_init_15 (by decide) ?_
  refine xp_X7_18 C hM hk_1 dX7_init_16 (fun H locs hM => ?_)
  refine lv_aload_n hx hb dX7_init_19 rfl (lv_at hl 0 rfl) ?_
  refine lv_iconst (v := (-1)) hx hb dX7_init_20 (by decide) ?_
  refine xp_X7_21 C hM hk_1 dX7_init_21 (fun H locs hM => ?_)
  refine lv_aload_n hx hb dX7_init_24 rfl (lv_at hl 0 rfl) ?_
  refine lv_iload_n hx hb dX7_init_25 rfl (lv_at hl 1 rfl) ?_
  refine xp_X7_24 C hM hk_1 hmn dX7_init_26 (fun H locs hM => ?_)
  refine lv_aload_n hx hb dX7_init_29 rfl (lv_at hl 0 rfl) ?_
  refine lv_iload_n hx hb dX7_init_30 rfl (lv_at hl 2 rfl) ?_
  refine xp_X7_27 C hM hk_1 hmn dX7_init_31 (fun H locs hM => ?_)
  refine lv_aload_n hx hb dX7_init_34 rfl (lv_at hl 0 rfl) ?_
  refine lv_iload_n hx hb dX7_init_35 rfl (lv_at hl 3 rfl) ?_
  refine xp_X7_30 C hM hk_1 hmn dX7_init_36 (fun H locs hM => ?_)
  refine lv_aload_n hx hb dX7_init_39 rfl (lv_at hl 0 rfl) ?_
  refine lv_iload hx hb dX7_init_40 (lv_at hl 4 rfl) ?_
  refine xp_X7_33 C hM hk_1 hmn dX7_init_42 (fun H locs hM => ?_)
  refine lv_aload_n hx hb dX7_init_45 rfl (lv_at hl 0 rfl) ?_
  refine lv_iload hx hb dX7_init_46 (lv_at hl 5 rfl) ?_
  refine xp_X7_36 C hM hk_1 dX7_init_48 (fun H locs hM => ?_)
  exact J_51 (xI (xI (xI (xI (xI (xI (xI (xI (xI σ 168 q0 0) 169 q0 (-1)) 170 q0 (-1)) 173 q0 (-1)) 160 q0 p1) 161 q0 p2) 162 q0 p3) 163 q0 p4) 165 q0 p5) hf hok _ _ ls hM (lv_sub hl [0, 6, 7] rfl)
def f_X7_pieceOf_26 (σ : XS) (q0 : Nat) (nq : Nat) (p1 : Int32) (p2 : Int32) (t0_26 : Nat) (σ_26 : XS) : Nat × XS := (t0_26, (xI (xI (xI σ_26 170 t0_26 (xi σ_26 170 q0)) 171 t0_26 (xi σ_26 171 q0)) 172 t0_26 (xi σ_26 172 q0)))
def of_X7_pieceOf_26 (σ : XS) (q0 : Nat) (nq : Nat) (p1 : Int32) (p2 : Int32) (t0_26 : Nat) (σ_26 : XS) : Prop := ((xk σ_26 q0) = 8 ∧ ((xk σ_26 t0_26) = 8 ∧ True))
def f_X7_pieceOf (σ : XS) (q0 : Nat) (nq : Nat) (p1 : Int32) (p2 : Int32) : Nat × XS := (f_X7_pieceOf_26 σ q0 nq p1 p2 nq ((f_X7_init (xNew σ 8 nq) nq p1 (xi (xNew σ 8 nq) 161 q0) (xi (xNew σ 8 nq) 162 q0) (xi (xNew σ 8 nq) 163 q0) p2 (xi (xNew σ 8 nq) 167 q0) q0).2))
def of_X7_pieceOf (σ : XS) (q0 : Nat) (nq : Nat) (p1 : Int32) (p2 : Int32) : Prop := ((xk (xNew σ 8 nq) q0) = 8 ∧ (of_X7_init (xNew σ 8 nq) nq p1 (xi (xNew σ 8 nq) 161 q0) (xi (xNew σ 8 nq) 162 q0) (xi (xNew σ 8 nq) 163 q0) p2 (xi (xNew σ 8 nq) 167 q0) q0 ∧ (of_X7_pieceOf_26 σ q0 nq p1 p2 nq ((f_X7_init (xNew σ 8 nq) nq p1 (xi (xNew σ 8 nq) 161 q0) (xi (xNew σ 8 nq) 162 q0) (xi (xNew σ 8 nq) 163 q0) p2 (xi (xNew σ 8 nq) 167 q0) q0).2))))
def f_X7_isNear (σ : XS) (q0 : Nat) (p1 : Nat) : Int32 := (if 10 < (f_J9_abs_0f7a4 ((xi σ 161 q0) - (xi σ 161 p1))) then 0 else (if 10 < (f_J9_abs_0f7a4 ((xi σ 162 q0) - (xi σ 162 p1))) then 0 else 1))
def of_X7_isNear (σ : XS) (q0 : Nat) (p1 : Nat) : Prop := ((xk σ q0) = 8 ∧ ((xk σ p1) = 8 ∧ True))
def b_X7_isPartOf_2 (q0 : Nat) (p1 : Nat) (σ : XS) (w2_2 : Nat) : Bool × (Nat × (Option (Int32))) := (if w2_2 = 0 then (false, (w2_2, none)) else (if w2_2 = p1 then (false, (w2_2, some 1)) else (true, ((xr σ 164 w2_2), none))))
def ob_X7_isPartOf_2 (q0 : Nat) (p1 : Nat) (σ : XS) (w2_2 : Nat) : Prop := (oif (w2_2 = 0) True ((xk σ w2_2) = 8 ∧ True))
def s_X7_isPartOf_2 (q0 : Nat) (p1 : Nat) (σ : XS) (v : Nat × (Option (Int32))) : Bool × (Nat × (Option (Int32))) := b_X7_isPartOf_2 q0 p1 σ v.1
def os_X7_isPartOf_2 (q0 : Nat) (p1 : Nat) (σ : XS) (v : Nat × (Option (Int32))) : Prop := ob_X7_isPartOf_2 q0 p1 σ v.1
def f_X7_isPartOf_21 (σ : XS) (q0 : Nat) (p1 : Nat) : Int32 := 0
def f_X7_isPartOf_2 (σ : XS) (q0 : Nat) (p1 : Nat) (v2_2 : Nat) : Int32 := (lret (itr (s_X7_isPartOf_2 q0 p1 σ) FU (v2_2, none)).2 (f_X7_isPartOf_21 σ q0 p1))
def of_X7_isPartOf_2 (σ : XS) (q0 : Nat) (p1 : Nat) (v2_2 : Nat) : Prop := (ito (s_X7_isPartOf_2 q0 p1 σ) (os_X7_isPartOf_2 q0 p1 σ) FU (v2_2, none) ∧ (lreto (itr (s_X7_isPartOf_2 q0 p1 σ) FU (v2_2, none)).2 True))
def f_X7_isPartOf (σ : XS) (q0 : Nat) (p1 : Nat) : Int32 := (f_X7_isPartOf_2 σ q0 p1 q0)
def of_X7_isPartOf (σ : XS) (q0 : Nat) (p1 : Nat) : Prop := ((xk σ q0) = 8 ∧ (of_X7_isPartOf_2 σ q0 p1 q0))
def f_X7_hasOwnName (σ : XS) (q0 : Nat) : Int32 := (if (xi σ 173 q0) = (-1) then 0 else 1)
def of_X7_hasOwnName (σ : XS) (q0 : Nat) : Prop := ((xk σ q0) = 8 ∧ True)
def b_X7_namesake_2 (q0 : Nat) (σ : XS) (w1_2 : Nat) : Bool × (Nat × (Option (Nat))) := (if w1_2 = 0 then (false, (w1_2, none)) else (if (f_X7_hasOwnName σ w1_2) = 0 then (true, ((xr σ 164 w1_2), none)) else (false, (w1_2, some w1_2))))
def ob_X7_namesake_2 (q0 : Nat) (σ : XS) (w1_2 : Nat) : Prop := (oif (w1_2 = 0) True ((xk σ w1_2) = 8 ∧ (of_X7_hasOwnName σ w1_2 ∧ True)))
def s_X7_namesake_2 (q0 : Nat) (σ : XS) (v : Nat × (Option (Nat))) : Bool × (Nat × (Option (Nat))) := b_X7_namesake_2 q0 σ v.1
def os_X7_namesake_2 (q0 : Nat) (σ : XS) (v : Nat × (Option (Nat))) : Prop := ob_X7_namesake_2 q0 σ v.1
def f_X7_namesake_23 (σ : XS) (q0 : Nat) : Nat := 0
def f_X7_namesake_2 (σ : XS) (q0 : Nat) (v1_2 : Nat) : Nat := (lret (itr (s_X7_namesake_2 q0 σ) FU (v1_2, none)).2 (f_X7_namesake_23 σ q0))
def of_X7_namesake_2 (σ : XS) (q0 : Nat) (v1_2 : Nat) : Prop := (ito (s_X7_namesake_2 q0 σ) (os_X7_namesake_2 q0 σ) FU (v1_2, none) ∧ (lreto (itr (s_X7_namesake_2 q0 σ) FU (v1_2, none)).2 True))
def f_X7_namesake (σ : XS) (q0 : Nat) : Nat := (f_X7_namesake_2 σ q0 q0)
def of_X7_namesake (σ : XS) (q0 : Nat) : Prop := ((xk σ q0) = 8 ∧ (of_X7_namesake_2 σ q0 q0))
def f_X7_fullName (σ : XS) (q0 : Nat) : Int32 := (if (f_X7_namesake σ q0) = 0 then (-1) else ((100 * (xi σ 173 (f_X7_namesake σ q0))) + (xi σ 174 (f_X7_namesake σ q0))))
def of_X7_fullName (σ : XS) (q0 : Nat) : Prop := (of_X7_namesake σ q0 ∧ ((xk σ q0) = 8 ∧ (oif ((f_X7_namesake σ q0) = 0) True ((xk σ (f_X7_namesake σ q0)) = 8 ∧ True))))
def f_X7_isDoubtful (σ : XS) (q0 : Nat) : Int32 := (if (f_X7_namesake σ q0) = 0 then 0 else (if (xi σ 175 (f_X7_namesake σ q0)) = 0 then 0 else 1))
def of_X7_isDoubtful (σ : XS) (q0 : Nat) : Prop := (of_X7_namesake σ q0 ∧ ((xk σ q0) = 8 ∧ (oif ((f_X7_namesake σ q0) = 0) True ((xk σ (f_X7_namesake σ q0)) = 8 ∧ True))))
def f_X7_number (σ : XS) (q0 : Nat) (p1 : Int32) : Int32 := (if p1 = 0 then (xi σ 165 q0) else (if p1 = 1 then (xi σ 167 q0) else (if p1 = 2 then (xi σ 168 q0) else (if p1 = 3 then (xi σ 169 q0) else (if p1 = 4 then (if (xr σ 164 q0) = 0 then (-1) else (xi σ 160 (xr σ 164 q0))) else (if p1 = 5 then (f_X7_fullName σ q0) else (if p1 = 6 then (if (f_X7_isDoubtful σ q0) = 0 then 0 else 1) else (xi σ 166 q0))))))))
def of_X7_number (σ : XS) (q0 : Nat) (p1 : Int32) : Prop := (oif (p1 = 0) ((xk σ q0) = 8 ∧ True) (oif (p1 = 1) ((xk σ q0) = 8 ∧ True) (oif (p1 = 2) ((xk σ q0) = 8 ∧ True) (oif (p1 = 3) ((xk σ q0) = 8 ∧ True) (oif (p1 = 4) ((xk σ q0) = 8 ∧ (oif ((xr σ 164 q0) = 0) True ((xk σ (xr σ 164 q0)) = 8 ∧ True))) (oif (p1 = 5) (of_X7_fullName σ q0 ∧ ((xk σ q0) = 8 ∧ True)) (oif (p1 = 6) (of_X7_isDoubtful σ q0 ∧ ((xk σ q0) = 8 ∧ True)) ((xk σ q0) = 8 ∧ True))))))))
def f_X8_init (σ : XS) (q0 : Nat) (p1 : Int32) (p2 : Int32) (p3 : Int32) (p4 : Int32) (p5 : Int32) : Unit × XS := ((), (xI (xI (xI (xI (xI σ 180 q0 p1) 181 q0 p2) 182 q0 p3) 183 q0 p4) 184 q0 p5))
def of_X8_init (σ : XS) (q0 : Nat) (p1 : Int32) (p2 : Int32) (p3 : Int32) (p4 : Int32) (p5 : Int32) : Prop := ((xk σ q0) = 9 ∧ (zb p5 ∧ True))
set_option maxHeartbeats 4000000 in
set_option maxRecDepth 100000 in
theorem k_X8_init (l : Launch) (D : va_G) (a : Nat → ClassId) (x : Nat) (e0 : Nat) (A : Nat → Prop) (σ : XS) (q0 : Nat) (p1 : Int32) (p2 : Int32) (p3 : Int32) (p4 : Int32) (p5 : Int32) (hok : of_X8_init σ q0 p1 p2 p3 p4 p5) : KX l D a x e0 A yX8_init cX8_init 6 none 1 30 0 0 [.ref q0, .int p1, .int p2, .int p3, .int p4, .int p5] σ (fun _ => none) (fun _ => f_X8_init σ q0 p1 p2 p3 p4 p5) := by
  refine goXv (by decide +kernel) (Nat.le_of_ble_eq_true rfl) ?_
  intro p e s m args below meth c ls R Q nq hRf hRl hRc hRs hnq C hE hM hl hmn ret
  have hmn := hmn rfl
  have hl : lv_has ls 6 [(0, .ref q0), (1, .int p1), (2, .int p2), (3, .int p3), (4, .int p4), (5, .int p5)] := hl
  have hx := C.1.1
  have hb := C.1.2.1
  have hts := C.1.2.2.2.2
  have hown := C.1.2.2.2.1
  have hf : (f_X8_init σ q0 p1 p2 p3 p4 p5) = (f_X8_init σ q0 p1 p2 p3 p4 p5) := rfl
  refine lv_aload_n hx hb dX8_init_0 rfl (lv_at hl 0 rfl) ?_
  refine ox_init C q_676 hl.1 (by rw [hRf]; exact Nat.le_of_ble_eq_true rfl) (by rw [hRl]; exact Nat.le_of_ble_eq_true rfl) dX8_init_1 ?_
  refine lv_aload_n hx hb dX8_init_4 rfl (lv_at hl 0 rfl) ?_
  refine lv_iload_n hx hb dX8_init_5 rfl (lv_at hl 1 rfl) ?_
  have hk_1 := And.left hok
  have hok := And.right hok
  refine xp_X8_7 C hM hk_1 hmn dX8_init_6 (fun H locs hM => ?_)
  refine lv_aload_n hx hb dX8_init_9 rfl (lv_at hl 0 rfl) ?_
  refine lv_iload_n hx hb dX8_init_10 rfl (lv_at hl 2 rfl) ?_
  refine xp_X8_13 C hM hk_1 hmn dX8_init_11 (fun H locs hM => ?_)
  refine lv_aload_n hx hb dX8_init_14 rfl (lv_at hl 0 rfl) ?_
  refine lv_iload_n hx hb dX8_init_15 rfl (lv_at hl 3 rfl) ?_
  refine xp_X8_16 C hM hk_1 hmn dX8_init_16 (fun H locs hM => ?_)
  refine lv_aload_n hx hb dX8_init_19 rfl (lv_at hl 0 rfl) ?_
  refine lv_iload hx hb dX8_init_20 (lv_at hl 4 rfl) ?_
  refine xp_X8_19 C hM hk_1 hmn dX8_init_22 (fun H locs hM => ?_)
  refine lv_aload_n hx hb dX8_init_25 rfl (lv_at hl 0 rfl) ?_
  refine lv_iload hx hb dX8_init_26 (lv_at hl 5 rfl) ?_
  have ok_2 := And.left hok
  have hok := And.right hok
  refine xp_X8_22 C hM hk_1 ok_2 hmn dX8_init_28 (fun H locs hM => ?_)
  exact ret _ _ _ _ _ hM dX8_init_31 hf
def f_X8_isThrough (σ : XS) (q0 : Nat) (p1 : Int32) (p2 : Int32) (p3 : Int32) : Int32 := (if (xi σ 180 q0) = p1 then (if (xi σ 181 q0) = p2 then (if (xi σ 182 q0) = p3 then 1 else 0) else 0) else 0)
def of_X8_isThrough (σ : XS) (q0 : Nat) (p1 : Int32) (p2 : Int32) (p3 : Int32) : Prop := ((xk σ q0) = 9 ∧ True)
set_option maxHeartbeats 4000000 in
set_option maxRecDepth 100000 in
theorem k_X8_isThrough (l : Launch) (D : va_G) (a : Nat → ClassId) (x : Nat) (e0 : Nat) (A : Nat → Prop) (σ : XS) (q0 : Nat) (p1 : Int32) (p2 : Int32) (p3 : Int32) (hok : of_X8_isThrough σ q0 p1 p2 p3) : K0 l yX8_isThrough cX8_isThrough 4 ((some .boolean)) 0 0 [.ref q0, .int p1, .int p2, .int p3] (BX D a x e0 A σ) (.int (f_X8_isThrough σ q0 p1 p2 p3)) := by
  refine go0z (D := D) (a := a) (by decide +kernel) (fun _ h => h.1.1) (Nat.le_of_ble_eq_true rfl) ?_
  intro p e s m args below meth c ls R Q hRf hRl C hl hB
  obtain ⟨hB, ret⟩ := hB
  have hE := hB.1
  have hM : HX D a x e0 A σ s.heap s.heap [] := ⟨hB.2, va_S.rf⟩
  have hl : lv_has ls 4 [(0, .ref q0), (1, .int p1), (2, .int p2), (3, .int p3)] := hl
  have hx := C.1.1
  have hb := C.1.2.1
  have hts := C.1.2.2.2.2
  have hown := C.1.2.2.2.1
  have hf : (f_X8_isThrough σ q0 p1 p2 p3) = (f_X8_isThrough σ q0 p1 p2 p3) := rfl
  refine lv_aload_n hx hb dX8_isThrough_0 rfl (lv_at hl 0 rfl) ?_
  have hk_1 := And.left hok
  have hok := And.right hok
  refine xg_X8_7 C hM hk_1 dX8_isThrough_1 ?_
  refine lv_iload_n hx hb dX8_isThrough_4 rfl (lv_at hl 1 rfl) ?_
  refine lv_icmp_ne (tgt := 28) hx hb dX8_isThrough_5 (by decide) (fun c_2 => ?_) (fun c_2 => ?_)
  · have hf := hf.trans (if_neg c_2)
    refine lv_iconst (v := 0) hx hb dX8_isThrough_28 (by decide) ?_
    exact ret _ _ _ dX8_isThrough_29 (by unfold zb; decide) hf
  · have hf := hf.trans (if_pos c_2)
    refine lv_aload_n hx hb dX8_isThrough_8 rfl (lv_at hl 0 rfl) ?_
    refine xg_X8_13 C hM hk_1 dX8_isThrough_9 ?_
    refine lv_iload_n hx hb dX8_isThrough_12 rfl (lv_at hl 2 rfl) ?_
    refine lv_icmp_ne (tgt := 28) hx hb dX8_isThrough_13 (by decide) (fun c_3 => ?_) (fun c_3 => ?_)
    · have hf := hf.trans (if_neg c_3)
      refine lv_iconst (v := 0) hx hb dX8_isThrough_28 (by decide) ?_
      exact ret _ _ _ dX8_isThrough_29 (by unfold zb; decide) hf
    · have hf := hf.trans (if_pos c_3)
      refine lv_aload_n hx hb dX8_isThrough_16 rfl (lv_at hl 0 rfl) ?_
      refine xg_X8_16 C hM hk_1 dX8_isThrough_17 ?_
      refine lv_iload_n hx hb dX8_isThrough_20 rfl (lv_at hl 3 rfl) ?_
      refine lv_icmp_ne (tgt := 28) hx hb dX8_isThrough_21 (by decide) (fun c_4 => ?_) (fun c_4 => ?_)
      · have hf := hf.trans (if_neg c_4)
        refine lv_iconst (v := 0) hx hb dX8_isThrough_28 (by decide) ?_
        exact ret _ _ _ dX8_isThrough_29 (by unfold zb; decide) hf
      · have hf := hf.trans (if_pos c_4)
        refine lv_iconst (v := 1) hx hb dX8_isThrough_24 (by decide) ?_
        refine lv_goto (tgt := 29) hx hb dX8_isThrough_25 (by decide) ?_
        exact ret _ _ _ dX8_isThrough_29 (by unfold zb; decide) hf
def f_X9_init (σ : XS) (q0 : Nat) (p1 : Int32) : Unit × XS := ((), (xI σ 200 q0 p1))
def of_X9_init (σ : XS) (q0 : Nat) (p1 : Int32) : Prop := ((xk σ q0) = 10 ∧ True)
set_option maxHeartbeats 4000000 in
set_option maxRecDepth 100000 in
theorem k_X9_init (l : Launch) (D : va_G) (a : Nat → ClassId) (x : Nat) (e0 : Nat) (A : Nat → Prop) (σ : XS) (q0 : Nat) (p1 : Int32) (hok : of_X9_init σ q0 p1) : KX l D a x e0 A yX9_init cX9_init 2 none 1 30 0 0 [.ref q0, .int p1] σ (fun _ => none) (fun _ => f_X9_init σ q0 p1) := by
  refine goXv (by decide +kernel) (Nat.le_of_ble_eq_true rfl) ?_
  intro p e s m args below meth c ls R Q nq hRf hRl hRc hRs hnq C hE hM hl hmn ret
  have hmn := hmn rfl
  have hl : lv_has ls 2 [(0, .ref q0), (1, .int p1)] := hl
  have hx := C.1.1
  have hb := C.1.2.1
  have hts := C.1.2.2.2.2
  have hown := C.1.2.2.2.1
  have hf : (f_X9_init σ q0 p1) = (f_X9_init σ q0 p1) := rfl
  refine lv_aload_n hx hb dX9_init_0 rfl (lv_at hl 0 rfl) ?_
  refine ox_init C q_637 hl.1 (by rw [hRf]; exact Nat.le_of_ble_eq_true rfl) (by rw [hRl]; exact Nat.le_of_ble_eq_true rfl) dX9_init_1 ?_
  refine lv_aload_n hx hb dX9_init_4 rfl (lv_at hl 0 rfl) ?_
  refine lv_iload_n hx hb dX9_init_5 rfl (lv_at hl 1 rfl) ?_
  have hk_1 := And.left hok
  have hok := And.right hok
  refine xp_X9_7 C hM hk_1 hmn dX9_init_6 (fun H locs hM => ?_)
  exact ret _ _ _ _ _ hM dX9_init_9 hf
def f_X10_holds (p1 : Int64) (p2 : Int32) : Int32 := (if (lg_cmp ((p1 >>> (p2.toInt64 &&& 63)) &&& 1) 0) = 0 then 0 else 1)
set_option maxHeartbeats 4000000 in
set_option maxRecDepth 100000 in
theorem k_X10_holds (l : Launch) (D : va_G) (a : Nat → ClassId) (p1 : Int64) (p2 : Int32) : K0 l yX10_holds cX10_holds 3 ((some .boolean)) 0 0 [.long p1, .int p2] (BK D a) (.int (f_X10_holds p1 p2)) := by
  refine go0z (D := D) (a := a) (by decide +kernel) (fun _ h => h) (Nat.le_of_ble_eq_true rfl) ?_
  intro p e s m args below meth c ls R Q hRf hRl C hl hB
  obtain ⟨-, ret⟩ := hB
  have hl : lv_has ls 3 [(0, .long p1), (2, .int p2)] := hl
  have hx := C.1.1
  have hb := C.1.2.1
  have hts := C.1.2.2.2.2
  have hown := C.1.2.2.2.1
  have hf : (f_X10_holds p1 p2) = (f_X10_holds p1 p2) := rfl
  refine lv_lload_n hx hb dX10_holds_0 rfl (lv_at hl 0 rfl) ?_
  refine lv_iload_n hx hb dX10_holds_1 rfl (lv_at hl 1 rfl) ?_
  refine lv_lshr (v := (p1 >>> (p2.toInt64 &&& 63))) hx hb dX10_holds_2 rfl ?_
  refine lv_lconst (v := 1) hx hb dX10_holds_3 (by decide) ?_
  refine lv_land hx hb dX10_holds_4 ?_
  refine lv_lconst (v := 0) hx hb dX10_holds_5 (by decide) ?_
  refine W.lcmp hx hb dX10_holds_6 ?_
  refine lv_if_eq (tgt := 14) hx hb dX10_holds_7 (by decide) (fun c_1 => ?_) (fun c_1 => ?_)
  · have hf := hf.trans (if_pos c_1)
    refine lv_iconst (v := 0) hx hb dX10_holds_14 (by decide) ?_
    exact ret _ _ _ dX10_holds_15 (by unfold zb; decide) hf
  · have hf := hf.trans (if_neg c_1)
    refine lv_iconst (v := 1) hx hb dX10_holds_10 (by decide) ?_
    refine lv_goto (tgt := 15) hx hb dX10_holds_11 (by decide) ?_
    exact ret _ _ _ dX10_holds_15 (by unfold zb; decide) hf
def f_X10_landOf_22 (p1 : Int32) (p2 : Int32) (t0_22 : Int32) (t1_22 : Int32) : Int32 := (t1_22 + t0_22)
def f_X10_landOf_11 (p1 : Int32) (p2 : Int32) (t0_11 : Int32) : Int32 := (if 50 ≤ p2 then (f_X10_landOf_22 p1 p2 2 t0_11) else (f_X10_landOf_22 p1 p2 0 t0_11))
def f_X10_landOf (p1 : Int32) (p2 : Int32) : Int32 := (if 50 ≤ p1 then (f_X10_landOf_11 p1 p2 1) else (f_X10_landOf_11 p1 p2 0))
set_option maxHeartbeats 4000000 in
set_option maxRecDepth 100000 in
theorem k_X10_landOf (l : Launch) (D : va_G) (a : Nat → ClassId) (p1 : Int32) (p2 : Int32) : K0 l yX10_landOf cX10_landOf 2 ((some .int)) 0 0 [.int p1, .int p2] (BK D a) (.int (f_X10_landOf p1 p2)) := by
  refine go0i (D := D) (a := a) (by decide +kernel) (fun _ h => h) (Nat.le_of_ble_eq_true rfl) ?_
  intro p e s m args below meth c ls R Q hRf hRl C hl hB
  obtain ⟨-, ret⟩ := hB
  have hl : lv_has ls 2 [(0, .int p1), (1, .int p2)] := hl
  have hx := C.1.1
  have hb := C.1.2.1
  have hts := C.1.2.2.2.2
  have hown := C.1.2.2.2.1
  have hf : (f_X10_landOf p1 p2) = (f_X10_landOf p1 p2) := rfl
  have J_22 : ∀ (t0_22 : Int32) (t1_22 : Int32), (f_X10_landOf p1 p2) = f_X10_landOf_22 p1 p2 t0_22 t1_22 → ∀ (ls : Array Slot), lv_has ls 2 [] → W p l e R s m args below meth c s.heap [] 0 0 Q (F0 m 22 ls [.int t0_22, .int t1_22]) := by
    intro t0_22 t1_22 hf ls hl
    refine lv_iadd hx hb dX10_landOf_22 ?_
    exact ret _ _ _ dX10_landOf_23 hf
  have J_11 : ∀ (t0_11 : Int32), (f_X10_landOf p1 p2) = f_X10_landOf_11 p1 p2 t0_11 → ∀ (ls : Array Slot), lv_has ls 2 [(1, .int p2)] → W p l e R s m args below meth c s.heap [] 0 0 Q (F0 m 11 ls [.int t0_11]) := by
    intro t0_11 hf ls hl
    refine lv_iload_n hx hb dX10_landOf_11 rfl (lv_at hl 0 rfl) ?_
    refine lv_bipush (v := 50) hx hb dX10_landOf_12 (by decide) ?_
    refine lv_icmp_ge (tgt := 21) hx hb dX10_landOf_14 (by decide) (fun c_2 => ?_) (fun c_2 => ?_)
    · have hf := hf.trans (if_pos c_2)
      refine lv_iconst (v := 2) hx hb dX10_landOf_21 (by decide) ?_
      exact J_22 2 t0_11 hf ls (lv_sub hl [] rfl)
    · have hf := hf.trans (if_neg c_2)
      refine lv_iconst (v := 0) hx hb dX10_landOf_17 (by decide) ?_
      refine lv_goto (tgt := 22) hx hb dX10_landOf_18 (by decide) ?_
      exact J_22 0 t0_11 hf ls (lv_sub hl [] rfl)
  refine lv_iload_n hx hb dX10_landOf_0 rfl (lv_at hl 0 rfl) ?_
  refine lv_bipush (v := 50) hx hb dX10_landOf_1 (by decide) ?_
  refine lv_icmp_ge (tgt := 10) hx hb dX10_landOf_3 (by decide) (fun c_1 => ?_) (fun c_1 => ?_)
  · have hf := hf.trans (if_pos c_1)
    refine lv_iconst (v := 1) hx hb dX10_landOf_10 (by decide) ?_
    exact J_11 1 hf ls (lv_sub hl [1] rfl)
  · have hf := hf.trans (if_neg c_1)
    refine lv_iconst (v := 0) hx hb dX10_landOf_6 (by decide) ?_
    refine lv_goto (tgt := 11) hx hb dX10_landOf_7 (by decide) ?_
    exact J_11 0 hf ls (lv_sub hl [1] rfl)
def f_J9_max_7cf53 (p1 : Int32) (p2 : Int32) : Int32 := (if p1 < p2 then p2 else p1)
set_option maxHeartbeats 4000000 in
set_option maxRecDepth 100000 in
theorem k_J9_max_7cf53 (l : Launch) (D : va_G) (a : Nat → ClassId) (p1 : Int32) (p2 : Int32) : K0 l yJ9_max_7cf53 cJ9_max_7cf53 2 ((some .int)) 0 0 [.int p1, .int p2] (BK D a) (.int (f_J9_max_7cf53 p1 p2)) := by
  refine go0iF (D := D) (a := a) (mPlain rfl (by decide +kernel)) (fun _ h => h) (Nat.le_of_ble_eq_true rfl) ?_
  intro p e s m args below meth c ls R Q hRf hRl C hl hB
  obtain ⟨-, ret⟩ := hB
  have hl : lv_has ls 2 [(0, .int p1), (1, .int p2)] := hl
  have hx := C.1.1
  have hb := C.1.2.1
  have hts := C.1.2.2.2.2
  have hown := C.1.2.2.2.1
  have hf : (f_J9_max_7cf53 p1 p2) = (f_J9_max_7cf53 p1 p2) := rfl
  refine lv_iload_n hx hb dJ9_max_7cf53_0 rfl (lv_at hl 0 rfl) ?_
  refine lv_iload_n hx hb dJ9_max_7cf53_1 rfl (lv_at hl 1 rfl) ?_
  refine lv_icmp_lt (tgt := 9) hx hb dJ9_max_7cf53_2 (by decide) (fun c_1 => ?_) (fun c_1 => ?_)
  · have hf := hf.trans (if_pos c_1)
    refine lv_iload_n hx hb dJ9_max_7cf53_9 rfl (lv_at hl 1 rfl) ?_
    exact ret _ _ _ dJ9_max_7cf53_10 hf
  · have hf := hf.trans (if_neg c_1)
    refine lv_iload_n hx hb dJ9_max_7cf53_5 rfl (lv_at hl 0 rfl) ?_
    refine lv_goto (tgt := 10) hx hb dJ9_max_7cf53_6 (by decide) ?_
    exact ret _ _ _ dJ9_max_7cf53_10 hf
def f_J9_min_7cf53 (p1 : Int32) (p2 : Int32) : Int32 := (if p2 < p1 then p2 else p1)
set_option maxHeartbeats 4000000 in
set_option maxRecDepth 100000 in
theorem k_J9_min_7cf53 (l : Launch) (D : va_G) (a : Nat → ClassId) (p1 : Int32) (p2 : Int32) : K0 l yJ9_min_7cf53 cJ9_min_7cf53 2 ((some .int)) 0 0 [.int p1, .int p2] (BK D a) (.int (f_J9_min_7cf53 p1 p2)) := by
  refine go0iF (D := D) (a := a) (mPlain rfl (by decide +kernel)) (fun _ h => h) (Nat.le_of_ble_eq_true rfl) ?_
  intro p e s m args below meth c ls R Q hRf hRl C hl hB
  obtain ⟨-, ret⟩ := hB
  have hl : lv_has ls 2 [(0, .int p1), (1, .int p2)] := hl
  have hx := C.1.1
  have hb := C.1.2.1
  have hts := C.1.2.2.2.2
  have hown := C.1.2.2.2.1
  have hf : (f_J9_min_7cf53 p1 p2) = (f_J9_min_7cf53 p1 p2) := rfl
  refine lv_iload_n hx hb dJ9_min_7cf53_0 rfl (lv_at hl 0 rfl) ?_
  refine lv_iload_n hx hb dJ9_min_7cf53_1 rfl (lv_at hl 1 rfl) ?_
  refine lv_icmp_gt (tgt := 9) hx hb dJ9_min_7cf53_2 (by decide) (fun c_1 => ?_) (fun c_1 => ?_)
  · have hf := hf.trans (if_pos c_1)
    refine lv_iload_n hx hb dJ9_min_7cf53_9 rfl (lv_at hl 1 rfl) ?_
    exact ret _ _ _ dJ9_min_7cf53_10 hf
  · have hf := hf.trans (if_neg c_1)
    refine lv_iload_n hx hb dJ9_min_7cf53_5 rfl (lv_at hl 0 rfl) ?_
    refine lv_goto (tgt := 10) hx hb dJ9_min_7cf53_6 (by decide) ?_
    exact ret _ _ _ dJ9_min_7cf53_10 hf

