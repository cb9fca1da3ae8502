/-! ===== the reference is born ===== -/
def μ0 : MS := (fun k _ => if k = 8 then -1 else 0, fun _ _ => 0)
def mB : List Value := [.int 0, .int 0, .null, .null, .null, .int 0, .null, .null, .int 0, .int 0, .int 0, .int 0, .int 0, .int 0, .null, .null, .null, .null, .null, .null, .null, .null, .null, .null, .null, .long 0, .long 0, .long 0, .long 0, .long 0, .long 0, .long 0, .int 0, .long 0, .int 0, .int 0, .null, .null, .null, .int 0, .null, .null, .null, .null, .null, .null, .int 0, .null, .null, .null, .null, .null, .null, .null, .null, .null, .null, .null, .null, .null, .null, .null, .null, .null, .null, .null, .null]
def MI (D : va_G) (a : Nat → ClassId) (mo i : Nat) (fs : List Value) (H : Heap) : Prop := H.size = mo + (i + 1) ∧ va_at D vwCl (mo, .inr (12, fs)) H ∧ fs.length = 67 ∧ ∀ j q, j < i → (mW a mo μ0)[j + 1]? = some q → va_at D vwCl q H
section GOGI
variable {l : Launch} {D : va_G} {a : Nat → ClassId} {A : Nat → Prop} {y : MethodName} {bytes : ByteArray} {maxL fr lo mc ms : Nat} {av : List Value}
theorem goGi {B : State → Prop} {P : Heap → Option Value → Heap → Prop} (hy : plainName y.cls = true) (hB : GB D a B) (hlen : (lg_sl av).length ≤ maxL)
    (body : GoG l D a y bytes maxL fr lo mc ms av A B (fun p s m args below meth c e R Q => (y.name = "<init>" → meth.name = "<init>") ∧ ∀ (pc : Nat) (ls : Array Slot) (H : Heap) (locs : List Loc), va_S A s.heap H locs → decode bytes pc = .ok (.return_, 1) → P s.heap none H → W p l e R s m args below meth c H locs mc ms Q (F0 m pc ls []))) : KG l y bytes maxL none fr lo mc ms av A B P := by
  refine Met.ofW (cc := bytes) (maxL := maxL) (ret := none) hy rfl ?_
  intro p e s m args below meth c s₁ B' hml hv
  obtain ⟨rfl, hP⟩ := hv
  have C : Cx D a p s m av.toArray c bytes maxL y.cls := ⟨⟨B'.exec, B'.bytes, hml, findClass_of_methodNamed B'.named, fun w h => atoms_spec (ws := .code y bytes maxL none :: TB) B'.pre w (List.mem_cons_of_mem _ h)⟩, hB.1 _ hP⟩
  have hl := lv_entry av (n := maxL) hlen
  have hr := B'.returns
  have hk := B'.notSynchronized
  rw [lg_entry_eq]
  refine body p e s m _ below meth c _ _ _ rfl rfl rfl rfl C hP hl ⟨fun h => (name_of_methodNamed B'.named B'.method).1.trans h, ?_⟩
  intro pc ls H locs hS hdg hQ
  exact W.vret C.1.1 C.1.2.1 hr (fun t ht _ => ⟨⟨_, rfl, by rw [ht]; exact hQ⟩, hS.F ht⟩) hS.2.2 hdg hk
end GOGI
section MINIT
variable {p : Program} {l : Launch} {e : Env} {R : Room} {s : State} {m : MethodId} {args : Array Value} {below : List Frame} {meth : Method} {c : Code} {H : Heap} {locs : List Loc} {cells slots : Nat} {Q : State → Prop} {D : va_G} {a : Nat → ClassId} {mo : Nat} {cc : ByteArray} {nL pc : Nat} {ls : Array Slot} {rest : List Value} {own : String} {fs : List Value} {i N k idx : Nat}
theorem mi_put {v : Value} {ty : FieldType} (C : Cx D a p s m args c cc nL RX11) (hmn : meth.name = "<init>") (hI : MI D a mo i fs H) (hS : va_S (fun z => mo ≤ z) s.heap H locs) (hk : k < 67) (hlink : Cond.fieldLink RX11 idx RX11 (TX11 k).2.1 (TX11 k).2.2.1 ∈ TB) (hd : parseFieldDescriptor (TX11 k).2.2.1 = some ty) (hn : narrow ty v = v) (hfit : fits ty v = true) (hd1 : (TX11 k).1 = RX11) (hdg : decode cc pc = .ok (.putfield idx, 3))
    (kk : ∀ H1 locs1, MI D a mo i (fs.set k v) H1 → va_S (fun z => mo ≤ z) s.heap H1 locs1 → W p l e R s m args below meth c H1 locs1 cells slots Q (F0 m (pc + 3) ls rest)) : W p l e R s m args below meth c H locs cells slots Q (F0 m pc ls (v :: .ref mo :: rest)) := by
  obtain ⟨h1, h2, h3, h4⟩ := hI
  have fin : ∀ (H1 : Heap) (locs1 : List Loc), va_at D vwCl (mo, .inr (12, fs.set k v)) H1 → H1.size = H.size → (∀ z, z ≠ mo → H1[z]? = H[z]?) → (∀ {A : Nat → Prop} {H0 : Heap}, A mo → va_S A H0 H locs → va_S A H0 H1 locs1) → W p l e R s m args below meth c H1 locs1 cells slots Q (F0 m (pc + 3) ls rest) := by
    intro H1 locs1 e1 e2 e3 e4
    refine kk H1 locs1 ⟨by rw [e2]; exact h1, e1, by rw [List.length_set]; exact h3, fun j q hj hq => (h4 j q hj hq).kept (e3 _ (fun h => ?_))⟩ (e4 (A := fun z => mo ≤ z) (Nat.le_refl mo) hS)
    have h5 := congrArg (Option.map (fun q : Nat × va_E => q.1)) hq
    rw [← List.getElem?_map, mW_at, List.getElem?_map] at h5
    by_cases hjl : j + 1 < 46
    · rw [List.getElem?_range hjl] at h5
      simp at h5
      omega
    · rw [List.getElem?_eq_none (by rw [List.length_range]; omega)] at h5
      simp at h5
  by_cases hf : (TX11 k).2.2.2 = true
  · exact wx_putF (D := D) (cl := vwCl) (tys := tyL a) (ci := 12) (ty := ty) (C := RX11) (T := TX11) (N := 67) C.1.1 C.1.2.1 C.1.2.2.2.2 tb_X11 tyX11 tyX11_ok nmX11 C.1.2.2.2.1 C.2 h2 rfl k hk (C.1.2.2.2.2 _ hlink) (fun _ h9 => by rw [hd1] at h9; exact h9) hf hmn hd1 hd hn hfit (by rw [h3]; exact hk) hdg fin
  · exact wx_put (D := D) (cl := vwCl) (tys := tyL a) (ci := 12) (ty := ty) (C := RX11) (T := TX11) (N := 67) C.1.1 C.1.2.1 C.1.2.2.2.2 tb_X11 tyX11 tyX11_ok nmX11 C.1.2.2.2.1 C.2 h2 rfl k hk (C.1.2.2.2.2 _ hlink) (fun _ h9 => by rw [hd1] at h9; exact h9) (by simpa using hf) hd hn hfit (by rw [h3]; exact hk) hdg fin
theorem mi_new {at9 : ArrayType} {ty : FieldType} {en : va_E} (C : Cx D a p s m args c cc nL RX11) (hmn : meth.name = "<init>") (hI : MI D a mo i fs H) (hS : va_S (fun z => mo ≤ z) s.heap H locs) (hty : newarray.typeOf at9 = ty) (har : Cond.arrayClass ty ∈ TB) (hN : N ≤ 100) (hb8 : componentBytes ty ≤ 8) (hen : (mW a mo μ0)[i + 1]? = some (mo + (i + 1), en)) (hcell : ∀ cA : ClassId, s.vm.findClass ("[" ++ ty.toString) = some cA → ∀ H1 : Heap, H1[mo + (i + 1)]? = some (arrV cA N (fun _ => defaultValue ty)) → va_at D vwCl (mo + (i + 1), en) H1) (hk : k < 67) (hlink : Cond.fieldLink RX11 idx RX11 (TX11 k).2.1 (TX11 k).2.2.1 ∈ TB) {tf : FieldType} (hd : parseFieldDescriptor (TX11 k).2.2.1 = some (.array tf)) (hd1 : (TX11 k).1 = RX11) (hc : cells + 1 ≤ R.cells) (hs : slots + N ≤ R.slots) (hd0 : decode cc pc = .ok (.newarray at9, 2)) (hdg : decode cc (pc + 2) = .ok (.putfield idx, 3))
    (kk : ∀ H1 locs1, MI D a mo (i + 1) (fs.set k (.ref (mo + (i + 1)))) H1 → va_S (fun z => mo ≤ z) s.heap H1 locs1 → W p l e R s m args below meth c H1 locs1 (cells + 1) (slots + N) Q (F0 m (pc + 2 + 3) ls rest)) : W p l e R s m args below meth c H locs cells slots Q (F0 m pc ls (.int (nI N) :: .ref mo :: rest)) := by
  subst hty
  obtain ⟨h1, h2, h3, h4⟩ := hI
  refine va_newaK (atype := at9) C.1.1 C.1.2.1 (C.1.2.2.2.2 _ har) rfl hd0 rfl (nI_pos (by omega)) (nI_clamp (by omega)) (Nat.le_trans (Nat.mul_le_mul hN hb8) (by decide)) hc hs h1 (fun H1 cA e1 z1 o1 _ hNm => ?_)
  have hI1 : MI D a mo (i + 1) fs H1 := by
    refine ⟨by rw [z1]; omega, h2.kept (o1 mo (by omega)), h3, fun j q hj hq => ?_⟩
    by_cases hji : j = i
    · subst hji
      rw [hen] at hq
      cases hq
      exact hcell cA hNm H1 e1
    · have h5 := h4 j q (by omega) hq
      exact h5.kept (o1 _ (by have := h5.lt; omega))
  exact mi_put C hmn hI1 ⟨Nat.le_trans hS.1 (by rw [z1, h1]; omega), fun z hz hA => (o1 z (by have := hS.1; omega)).trans (hS.2.1 z hz hA), hS.2.2⟩ hk hlink hd rfl rfl hd1 hdg kk
theorem mi_cell {t : Nat} {ty : FieldType} {cA : ClassId} (C : Cx D a p s m args c cc nL own) (ht : (tyL a)[t]? = some (a t, ty)) (hp : ∀ C, ty ≠ .object C) (h : s.vm.findClass ("[" ++ ty.toString) = some cA) : cA = a t := by
  have h1 := (C.2.2 t _ ht).2
  have h2 : s.vm.findClass ("[" ++ ty.toString) = some (a t) := by
    cases ty with
    | object C => exact absurd rfl (hp C)
    | _ => exact h1
  exact Option.some.inj (h.symm.trans h2)
end MINIT

theorem mi_fs (mo : Nat) : (List.set (List.set (List.set (List.set (List.set (List.set (List.set (List.set (List.set (List.set (List.set (List.set (List.set (List.set (List.set (List.set (List.set (List.set (List.set (List.set (List.set (List.set (List.set (List.set (List.set (List.set (List.set (List.set (List.set (List.set (List.set (List.set (List.set (List.set (List.set (List.set (List.set (List.set (List.set (List.set (List.set (List.set (List.set (List.set (List.set (List.set mB 2 (.ref (mo + (0 + 1)))) 3 (.ref (mo + (1 + 1)))) 4 (.ref (mo + (2 + 1)))) 6 (.ref (mo + (3 + 1)))) 7 (.ref (mo + (4 + 1)))) 8 (.int (-1))) 14 (.ref (mo + (5 + 1)))) 15 (.ref (mo + (6 + 1)))) 16 (.ref (mo + (7 + 1)))) 17 (.ref (mo + (8 + 1)))) 18 (.ref (mo + (9 + 1)))) 19 (.ref (mo + (10 + 1)))) 20 (.ref (mo + (11 + 1)))) 21 (.ref (mo + (12 + 1)))) 22 (.ref (mo + (13 + 1)))) 23 (.ref (mo + (14 + 1)))) 24 (.ref (mo + (15 + 1)))) 36 (.ref (mo + (16 + 1)))) 37 (.ref (mo + (17 + 1)))) 38 (.ref (mo + (18 + 1)))) 40 (.ref (mo + (19 + 1)))) 41 (.ref (mo + (20 + 1)))) 42 (.ref (mo + (21 + 1)))) 43 (.ref (mo + (22 + 1)))) 44 (.ref (mo + (23 + 1)))) 45 (.ref (mo + (24 + 1)))) 47 (.ref (mo + (25 + 1)))) 48 (.ref (mo + (26 + 1)))) 49 (.ref (mo + (27 + 1)))) 50 (.ref (mo + (28 + 1)))) 51 (.ref (mo + (29 + 1)))) 52 (.ref (mo + (30 + 1)))) 53 (.ref (mo + (31 + 1)))) 54 (.ref (mo + (32 + 1)))) 55 (.ref (mo + (33 + 1)))) 56 (.ref (mo + (34 + 1)))) 57 (.ref (mo + (35 + 1)))) 58 (.ref (mo + (36 + 1)))) 59 (.ref (mo + (37 + 1)))) 60 (.ref (mo + (38 + 1)))) 61 (.ref (mo + (39 + 1)))) 62 (.ref (mo + (40 + 1)))) 63 (.ref (mo + (41 + 1)))) 64 (.ref (mo + (42 + 1)))) 65 (.ref (mo + (43 + 1)))) 66 (.ref (mo + (44 + 1)))) = mF mo μ0 := by
  unfold mB mF
  simp only [List.set_cons_succ, List.set_cons_zero]
  rfl
def B11 (D : va_G) (a : Nat → ClassId) (mo : Nat) (U : State) : Prop := va_K D vwCl (tyL a) U ∧ MI D a mo 0 mB U.heap
set_option maxHeartbeats 4000000 in
set_option maxRecDepth 100000 in
theorem k_X11_init (l : Launch) (D : va_G) (a : Nat → ClassId) (mo : Nat) : KG l yX11_init cX11_init 1 none 1 30 45 1834 [.ref mo] (fun z => mo ≤ z) (B11 D a mo) (fun _ v H1 => v = none ∧ H1.size = mo + 46 ∧ va_P D vwCl (mW a mo μ0) H1) := by
  refine goGi (D := D) (a := a) (by decide +kernel) ⟨fun U h => h.1, fun U g mk z h => ⟨bk_blind g mk z h.1, h.2⟩⟩ (Nat.le_of_ble_eq_true rfl) ?_
  intro p e s m args below meth c ls R Q hRf hRl hRc hRs C hB hl hr9
  obtain ⟨-, hI⟩ := hB
  obtain ⟨hmn, ret⟩ := hr9
  have hmn := hmn rfl
  have hl : lv_has ls 1 [(0, .ref mo)] := hl
  have hx := C.1.1
  have hb := C.1.2.1
  have hS : va_S (fun z => mo ≤ z) s.heap s.heap [] := va_S.rf
  refine lv_aload_n hx hb dX11_init_0 rfl (lv_at hl 0 rfl) ?_
  refine ox_init C q_1175 hl.1 (by rw [hRf]; exact Nat.le_refl _) (by rw [hRl]; exact Nat.le_of_ble_eq_true rfl) dX11_init_1 ?_
  refine lv_aload_n hx hb dX11_init_4 rfl (lv_at hl 0 rfl) ?_
  refine lv_bipush (v := nI 10) hx hb dX11_init_5 (by decide) ?_
  refine mi_new (i := 0) (N := 10) (k := 2) (at9 := .int) (ty := .int) (tf := .int) (en := .inl (a 0, 10, .inl (fun _ => 0))) C hmn hI hS rfl q_198 (by decide) (by decide) rfl (fun cA h H1 e1 => by rw [mi_cell (t := 0) C rfl (fun _ h => by cases h) h] at e1; exact e1) (by decide) q_1178 (by decide +kernel) rfl (by rw [hRc]; exact Nat.le_of_ble_eq_true rfl) (by rw [hRs]; exact Nat.le_of_ble_eq_true rfl) dX11_init_7 dX11_init_9 (fun H locs hI hS => ?_)
  refine lv_aload_n hx hb dX11_init_12 rfl (lv_at hl 0 rfl) ?_
  refine lv_bipush (v := nI 10) hx hb dX11_init_13 (by decide) ?_
  refine mi_new (i := 1) (N := 10) (k := 3) (at9 := .int) (ty := .int) (tf := .int) (en := .inl (a 0, 10, .inl (fun _ => 0))) C hmn hI hS rfl q_198 (by decide) (by decide) rfl (fun cA h H1 e1 => by rw [mi_cell (t := 0) C rfl (fun _ h => by cases h) h] at e1; exact e1) (by decide) q_1179 (by decide +kernel) rfl (by rw [hRc]; exact Nat.le_of_ble_eq_true rfl) (by rw [hRs]; exact Nat.le_of_ble_eq_true rfl) dX11_init_15 dX11_init_17 (fun H locs hI hS => ?_)
  refine lv_aload_n hx hb dX11_init_20 rfl (lv_at hl 0 rfl) ?_
  refine lv_bipush (v := nI 10) hx hb dX11_init_21 (by decide) ?_
  refine mi_new (i := 2) (N := 10) (k := 4) (at9 := .int) (ty := .int) (tf := .int) (en := .inl (a 0, 10, .inl (fun _ => 0))) C hmn hI hS rfl q_198 (by decide) (by decide) rfl (fun cA h H1 e1 => by rw [mi_cell (t := 0) C rfl (fun _ h => by cases h) h] at e1; exact e1) (by decide) q_1180 (by decide +kernel) rfl (by rw [hRc]; exact Nat.le_of_ble_eq_true rfl) (by rw [hRs]; exact Nat.le_of_ble_eq_true rfl) dX11_init_23 dX11_init_25 (fun H locs hI hS => ?_)
  refine lv_aload_n hx hb dX11_init_28 rfl (lv_at hl 0 rfl) ?_
  refine lv_bipush (v := nI 50) hx hb dX11_init_29 (by decide) ?_
  refine mi_new (i := 3) (N := 50) (k := 6) (at9 := .int) (ty := .int) (tf := .int) (en := .inl (a 0, 50, .inl (fun _ => 0))) C hmn hI hS rfl q_198 (by decide) (by decide) rfl (fun cA h H1 e1 => by rw [mi_cell (t := 0) C rfl (fun _ h => by cases h) h] at e1; exact e1) (by decide) q_1182 (by decide +kernel) rfl (by rw [hRc]; exact Nat.le_of_ble_eq_true rfl) (by rw [hRs]; exact Nat.le_of_ble_eq_true rfl) dX11_init_31 dX11_init_33 (fun H locs hI hS => ?_)
  refine lv_aload_n hx hb dX11_init_36 rfl (lv_at hl 0 rfl) ?_
  refine lv_bipush (v := nI 50) hx hb dX11_init_37 (by decide) ?_
  refine mi_new (i := 4) (N := 50) (k := 7) (at9 := .int) (ty := .int) (tf := .int) (en := .inl (a 0, 50, .inl (fun _ => 0))) C hmn hI hS rfl q_198 (by decide) (by decide) rfl (fun cA h H1 e1 => by rw [mi_cell (t := 0) C rfl (fun _ h => by cases h) h] at e1; exact e1) (by decide) q_1183 (by decide +kernel) rfl (by rw [hRc]; exact Nat.le_of_ble_eq_true rfl) (by rw [hRs]; exact Nat.le_of_ble_eq_true rfl) dX11_init_39 dX11_init_41 (fun H locs hI hS => ?_)
  refine lv_aload_n hx hb dX11_init_44 rfl (lv_at hl 0 rfl) ?_
  refine lv_iconst (v := (-1)) hx hb dX11_init_45 (by decide) ?_
  refine mi_put (i := 5) (k := 8) (ty := .int) C hmn hI hS (by decide) q_1184 (by decide +kernel) rfl rfl rfl dX11_init_46 (fun H locs hI hS => ?_)
  refine lv_aload_n hx hb dX11_init_49 rfl (lv_at hl 0 rfl) ?_
  refine lv_bipush (v := nI 60) hx hb dX11_init_50 (by decide) ?_
  refine mi_new (i := 5) (N := 60) (k := 14) (at9 := .int) (ty := .int) (tf := .int) (en := .inl (a 0, 60, .inl (fun _ => 0))) C hmn hI hS rfl q_198 (by decide) (by decide) rfl (fun cA h H1 e1 => by rw [mi_cell (t := 0) C rfl (fun _ h => by cases h) h] at e1; exact e1) (by decide) q_1190 (by decide +kernel) rfl (by rw [hRc]; exact Nat.le_of_ble_eq_true rfl) (by rw [hRs]; exact Nat.le_of_ble_eq_true rfl) dX11_init_52 dX11_init_54 (fun H locs hI hS => ?_)
  refine lv_aload_n hx hb dX11_init_57 rfl (lv_at hl 0 rfl) ?_
  refine lv_bipush (v := nI 60) hx hb dX11_init_58 (by decide) ?_
  refine mi_new (i := 6) (N := 60) (k := 15) (at9 := .int) (ty := .int) (tf := .int) (en := .inl (a 0, 60, .inl (fun _ => 0))) C hmn hI hS rfl q_198 (by decide) (by decide) rfl (fun cA h H1 e1 => by rw [mi_cell (t := 0) C rfl (fun _ h => by cases h) h] at e1; exact e1) (by decide) q_1191 (by decide +kernel) rfl (by rw [hRc]; exact Nat.le_of_ble_eq_true rfl) (by rw [hRs]; exact Nat.le_of_ble_eq_true rfl) dX11_init_60 dX11_init_62 (fun H locs hI hS => ?_)
  refine lv_aload_n hx hb dX11_init_65 rfl (lv_at hl 0 rfl) ?_
  refine lv_bipush (v := nI 60) hx hb dX11_init_66 (by decide) ?_
  refine mi_new (i := 7) (N := 60) (k := 16) (at9 := .int) (ty := .int) (tf := .int) (en := .inl (a 0, 60, .inl (fun _ => 0))) C hmn hI hS rfl q_198 (by decide) (by decide) rfl (fun cA h H1 e1 => by rw [mi_cell (t := 0) C rfl (fun _ h => by cases h) h] at e1; exact e1) (by decide) q_1192 (by decide +kernel) rfl (by rw [hRc]; exact Nat.le_of_ble_eq_true rfl) (by rw [hRs]; exact Nat.le_of_ble_eq_true rfl) dX11_init_68 dX11_init_70 (fun H locs hI hS => ?_)
  refine lv_aload_n hx hb dX11_init_73 rfl (lv_at hl 0 rfl) ?_
  refine lv_bipush (v := nI 60) hx hb dX11_init_74 (by decide) ?_
  refine mi_new (i := 8) (N := 60) (k := 17) (at9 := .int) (ty := .int) (tf := .int) (en := .inl (a 0, 60, .inl (fun _ => 0))) C hmn hI hS rfl q_198 (by decide) (by decide) rfl (fun cA h H1 e1 => by rw [mi_cell (t := 0) C rfl (fun _ h => by cases h) h] at e1; exact e1) (by decide) q_1193 (by decide +kernel) rfl (by rw [hRc]; exact Nat.le_of_ble_eq_true rfl) (by rw [hRs]; exact Nat.le_of_ble_eq_true rfl) dX11_init_76 dX11_init_78 (fun H locs hI hS => ?_)
  refine lv_aload_n hx hb dX11_init_81 rfl (lv_at hl 0 rfl) ?_
  refine lv_bipush (v := nI 60) hx hb dX11_init_82 (by decide) ?_
  refine mi_new (i := 9) (N := 60) (k := 18) (at9 := .int) (ty := .int) (tf := .int) (en := .inl (a 0, 60, .inl (fun _ => 0))) C hmn hI hS rfl q_198 (by decide) (by decide) rfl (fun cA h H1 e1 => by rw [mi_cell (t := 0) C rfl (fun _ h => by cases h) h] at e1; exact e1) (by decide) q_1194 (by decide +kernel) rfl (by rw [hRc]; exact Nat.le_of_ble_eq_true rfl) (by rw [hRs]; exact Nat.le_of_ble_eq_true rfl) dX11_init_84 dX11_init_86 (fun H locs hI hS => ?_)
  refine lv_aload_n hx hb dX11_init_89 rfl (lv_at hl 0 rfl) ?_
  refine lv_bipush (v := nI 60) hx hb dX11_init_90 (by decide) ?_
  refine mi_new (i := 10) (N := 60) (k := 19) (at9 := .int) (ty := .int) (tf := .int) (en := .inl (a 0, 60, .inl (fun _ => 0))) C hmn hI hS rfl q_198 (by decide) (by decide) rfl (fun cA h H1 e1 => by rw [mi_cell (t := 0) C rfl (fun _ h => by cases h) h] at e1; exact e1) (by decide) q_1195 (by decide +kernel) rfl (by rw [hRc]; exact Nat.le_of_ble_eq_true rfl) (by rw [hRs]; exact Nat.le_of_ble_eq_true rfl) dX11_init_92 dX11_init_94 (fun H locs hI hS => ?_)
  refine lv_aload_n hx hb dX11_init_97 rfl (lv_at hl 0 rfl) ?_
  refine lv_bipush (v := nI 60) hx hb dX11_init_98 (by decide) ?_
  refine mi_new (i := 11) (N := 60) (k := 20) (at9 := .int) (ty := .int) (tf := .int) (en := .inl (a 0, 60, .inl (fun _ => 0))) C hmn hI hS rfl q_198 (by decide) (by decide) rfl (fun cA h H1 e1 => by rw [mi_cell (t := 0) C rfl (fun _ h => by cases h) h] at e1; exact e1) (by decide) q_1196 (by decide +kernel) rfl (by rw [hRc]; exact Nat.le_of_ble_eq_true rfl) (by rw [hRs]; exact Nat.le_of_ble_eq_true rfl) dX11_init_100 dX11_init_102 (fun H locs hI hS => ?_)
  refine lv_aload_n hx hb dX11_init_105 rfl (lv_at hl 0 rfl) ?_
  refine lv_bipush (v := nI 60) hx hb dX11_init_106 (by decide) ?_
  refine mi_new (i := 12) (N := 60) (k := 21) (at9 := .int) (ty := .int) (tf := .int) (en := .inl (a 0, 60, .inl (fun _ => 0))) C hmn hI hS rfl q_198 (by decide) (by decide) rfl (fun cA h H1 e1 => by rw [mi_cell (t := 0) C rfl (fun _ h => by cases h) h] at e1; exact e1) (by decide) q_1197 (by decide +kernel) rfl (by rw [hRc]; exact Nat.le_of_ble_eq_true rfl) (by rw [hRs]; exact Nat.le_of_ble_eq_true rfl) dX11_init_108 dX11_init_110 (fun H locs hI hS => ?_)
  refine lv_aload_n hx hb dX11_init_113 rfl (lv_at hl 0 rfl) ?_
  refine lv_bipush (v := nI 60) hx hb dX11_init_114 (by decide) ?_
  refine mi_new (i := 13) (N := 60) (k := 22) (at9 := .int) (ty := .int) (tf := .int) (en := .inl (a 0, 60, .inl (fun _ => 0))) C hmn hI hS rfl q_198 (by decide) (by decide) rfl (fun cA h H1 e1 => by rw [mi_cell (t := 0) C rfl (fun _ h => by cases h) h] at e1; exact e1) (by decide) q_1198 (by decide +kernel) rfl (by rw [hRc]; exact Nat.le_of_ble_eq_true rfl) (by rw [hRs]; exact Nat.le_of_ble_eq_true rfl) dX11_init_116 dX11_init_118 (fun H locs hI hS => ?_)
  refine lv_aload_n hx hb dX11_init_121 rfl (lv_at hl 0 rfl) ?_
  refine lv_bipush (v := nI 60) hx hb dX11_init_122 (by decide) ?_
  refine mi_new (i := 14) (N := 60) (k := 23) (at9 := .int) (ty := .int) (tf := .int) (en := .inl (a 0, 60, .inl (fun _ => 0))) C hmn hI hS rfl q_198 (by decide) (by decide) rfl (fun cA h H1 e1 => by rw [mi_cell (t := 0) C rfl (fun _ h => by cases h) h] at e1; exact e1) (by decide) q_1199 (by decide +kernel) rfl (by rw [hRc]; exact Nat.le_of_ble_eq_true rfl) (by rw [hRs]; exact Nat.le_of_ble_eq_true rfl) dX11_init_124 dX11_init_126 (fun H locs hI hS => ?_)
  refine lv_aload_n hx hb dX11_init_129 rfl (lv_at hl 0 rfl) ?_
  refine lv_bipush (v := nI 60) hx hb dX11_init_130 (by decide) ?_
  refine mi_new (i := 15) (N := 60) (k := 24) (at9 := .boolean) (ty := .boolean) (tf := .boolean) (en := .inl (a 2, 60, .inl (fun _ => 0))) C hmn hI hS rfl q_1378 (by decide) (by decide) rfl (fun cA h H1 e1 => by rw [mi_cell (t := 2) C rfl (fun _ h => by cases h) h] at e1; exact e1) (by decide) q_1200 (by decide +kernel) rfl (by rw [hRc]; exact Nat.le_of_ble_eq_true rfl) (by rw [hRs]; exact Nat.le_of_ble_eq_true rfl) dX11_init_132 dX11_init_134 (fun H locs hI hS => ?_)
  refine lv_aload_n hx hb dX11_init_137 rfl (lv_at hl 0 rfl) ?_
  refine lv_bipush (v := nI 50) hx hb dX11_init_138 (by decide) ?_
  refine mi_new (i := 16) (N := 50) (k := 36) (at9 := .int) (ty := .int) (tf := .int) (en := .inl (a 0, 50, .inl (fun _ => 0))) C hmn hI hS rfl q_198 (by decide) (by decide) rfl (fun cA h H1 e1 => by rw [mi_cell (t := 0) C rfl (fun _ h => by cases h) h] at e1; exact e1) (by decide) q_1212 (by decide +kernel) rfl (by rw [hRc]; exact Nat.le_of_ble_eq_true rfl) (by rw [hRs]; exact Nat.le_of_ble_eq_true rfl) dX11_init_140 dX11_init_142 (fun H locs hI hS => ?_)
  refine lv_aload_n hx hb dX11_init_145 rfl (lv_at hl 0 rfl) ?_
  refine lv_bipush (v := nI 50) hx hb dX11_init_146 (by decide) ?_
  refine mi_new (i := 17) (N := 50) (k := 37) (at9 := .int) (ty := .int) (tf := .int) (en := .inl (a 0, 50, .inl (fun _ => 0))) C hmn hI hS rfl q_198 (by decide) (by decide) rfl (fun cA h H1 e1 => by rw [mi_cell (t := 0) C rfl (fun _ h => by cases h) h] at e1; exact e1) (by decide) q_1213 (by decide +kernel) rfl (by rw [hRc]; exact Nat.le_of_ble_eq_true rfl) (by rw [hRs]; exact Nat.le_of_ble_eq_true rfl) dX11_init_148 dX11_init_150 (fun H locs hI hS => ?_)
  refine lv_aload_n hx hb dX11_init_153 rfl (lv_at hl 0 rfl) ?_
  refine lv_bipush (v := nI 50) hx hb dX11_init_154 (by decide) ?_
  refine mi_new (i := 18) (N := 50) (k := 38) (at9 := .int) (ty := .int) (tf := .int) (en := .inl (a 0, 50, .inl (fun _ => 0))) C hmn hI hS rfl q_198 (by decide) (by decide) rfl (fun cA h H1 e1 => by rw [mi_cell (t := 0) C rfl (fun _ h => by cases h) h] at e1; exact e1) (by decide) q_1214 (by decide +kernel) rfl (by rw [hRc]; exact Nat.le_of_ble_eq_true rfl) (by rw [hRs]; exact Nat.le_of_ble_eq_true rfl) dX11_init_156 dX11_init_158 (fun H locs hI hS => ?_)
  refine lv_aload_n hx hb dX11_init_161 rfl (lv_at hl 0 rfl) ?_
  refine lv_bipush (v := nI 60) hx hb dX11_init_162 (by decide) ?_
  refine mi_new (i := 19) (N := 60) (k := 40) (at9 := .int) (ty := .int) (tf := .int) (en := .inl (a 0, 60, .inl (fun _ => 0))) C hmn hI hS rfl q_198 (by decide) (by decide) rfl (fun cA h H1 e1 => by rw [mi_cell (t := 0) C rfl (fun _ h => by cases h) h] at e1; exact e1) (by decide) q_1216 (by decide +kernel) rfl (by rw [hRc]; exact Nat.le_of_ble_eq_true rfl) (by rw [hRs]; exact Nat.le_of_ble_eq_true rfl) dX11_init_164 dX11_init_166 (fun H locs hI hS => ?_)
  refine lv_aload_n hx hb dX11_init_169 rfl (lv_at hl 0 rfl) ?_
  refine lv_bipush (v := nI 60) hx hb dX11_init_170 (by decide) ?_
  refine mi_new (i := 20) (N := 60) (k := 41) (at9 := .int) (ty := .int) (tf := .int) (en := .inl (a 0, 60, .inl (fun _ => 0))) C hmn hI hS rfl q_198 (by decide) (by decide) rfl (fun cA h H1 e1 => by rw [mi_cell (t := 0) C rfl (fun _ h => by cases h) h] at e1; exact e1) (by decide) q_1217 (by decide +kernel) rfl (by rw [hRc]; exact Nat.le_of_ble_eq_true rfl) (by rw [hRs]; exact Nat.le_of_ble_eq_true rfl) dX11_init_172 dX11_init_174 (fun H locs hI hS => ?_)
  refine lv_aload_n hx hb dX11_init_177 rfl (lv_at hl 0 rfl) ?_
  refine lv_bipush (v := nI 60) hx hb dX11_init_178 (by decide) ?_
  refine mi_new (i := 21) (N := 60) (k := 42) (at9 := .int) (ty := .int) (tf := .int) (en := .inl (a 0, 60, .inl (fun _ => 0))) C hmn hI hS rfl q_198 (by decide) (by decide) rfl (fun cA h H1 e1 => by rw [mi_cell (t := 0) C rfl (fun _ h => by cases h) h] at e1; exact e1) (by decide) q_1218 (by decide +kernel) rfl (by rw [hRc]; exact Nat.le_of_ble_eq_true rfl) (by rw [hRs]; exact Nat.le_of_ble_eq_true rfl) dX11_init_180 dX11_init_182 (fun H locs hI hS => ?_)
  refine lv_aload_n hx hb dX11_init_185 rfl (lv_at hl 0 rfl) ?_
  refine lv_bipush (v := nI 60) hx hb dX11_init_186 (by decide) ?_
  refine mi_new (i := 22) (N := 60) (k := 43) (at9 := .int) (ty := .int) (tf := .int) (en := .inl (a 0, 60, .inl (fun _ => 0))) C hmn hI hS rfl q_198 (by decide) (by decide) rfl (fun cA h H1 e1 => by rw [mi_cell (t := 0) C rfl (fun _ h => by cases h) h] at e1; exact e1) (by decide) q_1219 (by decide +kernel) rfl (by rw [hRc]; exact Nat.le_of_ble_eq_true rfl) (by rw [hRs]; exact Nat.le_of_ble_eq_true rfl) dX11_init_188 dX11_init_190 (fun H locs hI hS => ?_)
  refine lv_aload_n hx hb dX11_init_193 rfl (lv_at hl 0 rfl) ?_
  refine lv_iconst (v := nI 5) hx hb dX11_init_194 (by decide) ?_
  refine mi_new (i := 23) (N := 5) (k := 44) (at9 := .long) (ty := .long) (tf := .long) (en := .inl (a 1, 5, .inr (.inl (fun _ => 0)))) C hmn hI hS rfl q_1379 (by decide) (by decide) rfl (fun cA h H1 e1 => by rw [mi_cell (t := 1) C rfl (fun _ h => by cases h) h] at e1; exact e1) (by decide) q_1220 (by decide +kernel) rfl (by rw [hRc]; exact Nat.le_of_ble_eq_true rfl) (by rw [hRs]; exact Nat.le_of_ble_eq_true rfl) dX11_init_195 dX11_init_197 (fun H locs hI hS => ?_)
  refine lv_aload_n hx hb dX11_init_200 rfl (lv_at hl 0 rfl) ?_
  refine lv_iconst (v := nI 5) hx hb dX11_init_201 (by decide) ?_
  refine mi_new (i := 24) (N := 5) (k := 45) (at9 := .long) (ty := .long) (tf := .long) (en := .inl (a 1, 5, .inr (.inl (fun _ => 0)))) C hmn hI hS rfl q_1379 (by decide) (by decide) rfl (fun cA h H1 e1 => by rw [mi_cell (t := 1) C rfl (fun _ h => by cases h) h] at e1; exact e1) (by decide) q_1221 (by decide +kernel) rfl (by rw [hRc]; exact Nat.le_of_ble_eq_true rfl) (by rw [hRs]; exact Nat.le_of_ble_eq_true rfl) dX11_init_202 dX11_init_204 (fun H locs hI hS => ?_)
  refine lv_aload_n hx hb dX11_init_207 rfl (lv_at hl 0 rfl) ?_
  refine lv_bipush (v := nI 40) hx hb dX11_init_208 (by decide) ?_
  refine mi_new (i := 25) (N := 40) (k := 47) (at9 := .int) (ty := .int) (tf := .int) (en := .inl (a 0, 40, .inl (fun _ => 0))) C hmn hI hS rfl q_198 (by decide) (by decide) rfl (fun cA h H1 e1 => by rw [mi_cell (t := 0) C rfl (fun _ h => by cases h) h] at e1; exact e1) (by decide) q_1223 (by decide +kernel) rfl (by rw [hRc]; exact Nat.le_of_ble_eq_true rfl) (by rw [hRs]; exact Nat.le_of_ble_eq_true rfl) dX11_init_210 dX11_init_212 (fun H locs hI hS => ?_)
  refine lv_aload_n hx hb dX11_init_215 rfl (lv_at hl 0 rfl) ?_
  refine lv_bipush (v := nI 40) hx hb dX11_init_216 (by decide) ?_
  refine mi_new (i := 26) (N := 40) (k := 48) (at9 := .int) (ty := .int) (tf := .int) (en := .inl (a 0, 40, .inl (fun _ => 0))) C hmn hI hS rfl q_198 (by decide) (by decide) rfl (fun cA h H1 e1 => by rw [mi_cell (t := 0) C rfl (fun _ h => by cases h) h] at e1; exact e1) (by decide) q_1224 (by decide +kernel) rfl (by rw [hRc]; exact Nat.le_of_ble_eq_true rfl) (by rw [hRs]; exact Nat.le_of_ble_eq_true rfl) dX11_init_218 dX11_init_220 (fun H locs hI hS => ?_)
  refine lv_aload_n hx hb dX11_init_223 rfl (lv_at hl 0 rfl) ?_
  refine lv_bipush (v := nI 40) hx hb dX11_init_224 (by decide) ?_
  refine mi_new (i := 27) (N := 40) (k := 49) (at9 := .int) (ty := .int) (tf := .int) (en := .inl (a 0, 40, .inl (fun _ => 0))) C hmn hI hS rfl q_198 (by decide) (by decide) rfl (fun cA h H1 e1 => by rw [mi_cell (t := 0) C rfl (fun _ h => by cases h) h] at e1; exact e1) (by decide) q_1225 (by decide +kernel) rfl (by rw [hRc]; exact Nat.le_of_ble_eq_true rfl) (by rw [hRs]; exact Nat.le_of_ble_eq_true rfl) dX11_init_226 dX11_init_228 (fun H locs hI hS => ?_)
  refine lv_aload_n hx hb dX11_init_231 rfl (lv_at hl 0 rfl) ?_
  refine lv_bipush (v := nI 40) hx hb dX11_init_232 (by decide) ?_
  refine mi_new (i := 28) (N := 40) (k := 50) (at9 := .int) (ty := .int) (tf := .int) (en := .inl (a 0, 40, .inl (fun _ => 0))) C hmn hI hS rfl q_198 (by decide) (by decide) rfl (fun cA h H1 e1 => by rw [mi_cell (t := 0) C rfl (fun _ h => by cases h) h] at e1; exact e1) (by decide) q_1226 (by decide +kernel) rfl (by rw [hRc]; exact Nat.le_of_ble_eq_true rfl) (by rw [hRs]; exact Nat.le_of_ble_eq_true rfl) dX11_init_234 dX11_init_236 (fun H locs hI hS => ?_)
  refine lv_aload_n hx hb dX11_init_239 rfl (lv_at hl 0 rfl) ?_
  refine lv_bipush (v := nI 40) hx hb dX11_init_240 (by decide) ?_
  refine mi_new (i := 29) (N := 40) (k := 51) (at9 := .int) (ty := .int) (tf := .int) (en := .inl (a 0, 40, .inl (fun _ => 0))) C hmn hI hS rfl q_198 (by decide) (by decide) rfl (fun cA h H1 e1 => by rw [mi_cell (t := 0) C rfl (fun _ h => by cases h) h] at e1; exact e1) (by decide) q_1227 (by decide +kernel) rfl (by rw [hRc]; exact Nat.le_of_ble_eq_true rfl) (by rw [hRs]; exact Nat.le_of_ble_eq_true rfl) dX11_init_242 dX11_init_244 (fun H locs hI hS => ?_)
  refine lv_aload_n hx hb dX11_init_247 rfl (lv_at hl 0 rfl) ?_
  refine lv_bipush (v := nI 40) hx hb dX11_init_248 (by decide) ?_
  refine mi_new (i := 30) (N := 40) (k := 52) (at9 := .int) (ty := .int) (tf := .int) (en := .inl (a 0, 40, .inl (fun _ => 0))) C hmn hI hS rfl q_198 (by decide) (by decide) rfl (fun cA h H1 e1 => by rw [mi_cell (t := 0) C rfl (fun _ h => by cases h) h] at e1; exact e1) (by decide) q_1228 (by decide +kernel) rfl (by rw [hRc]; exact Nat.le_of_ble_eq_true rfl) (by rw [hRs]; exact Nat.le_of_ble_eq_true rfl) dX11_init_250 dX11_init_252 (fun H locs hI hS => ?_)
  refine lv_aload_n hx hb dX11_init_255 rfl (lv_at hl 0 rfl) ?_
  refine lv_bipush (v := nI 40) hx hb dX11_init_256 (by decide) ?_
  refine mi_new (i := 31) (N := 40) (k := 53) (at9 := .int) (ty := .int) (tf := .int) (en := .inl (a 0, 40, .inl (fun _ => 0))) C hmn hI hS rfl q_198 (by decide) (by decide) rfl (fun cA h H1 e1 => by rw [mi_cell (t := 0) C rfl (fun _ h => by cases h) h] at e1; exact e1) (by decide) q_1229 (by decide +kernel) rfl (by rw [hRc]; exact Nat.le_of_ble_eq_true rfl) (by rw [hRs]; exact Nat.le_of_ble_eq_true rfl) dX11_init_258 dX11_init_260 (fun H locs hI hS => ?_)
  refine lv_aload_n hx hb dX11_init_263 rfl (lv_at hl 0 rfl) ?_
  refine lv_bipush (v := nI 40) hx hb dX11_init_264 (by decide) ?_
  refine mi_new (i := 32) (N := 40) (k := 54) (at9 := .int) (ty := .int) (tf := .int) (en := .inl (a 0, 40, .inl (fun _ => 0))) C hmn hI hS rfl q_198 (by decide) (by decide) rfl (fun cA h H1 e1 => by rw [mi_cell (t := 0) C rfl (fun _ h => by cases h) h] at e1; exact e1) (by decide) q_1230 (by decide +kernel) rfl (by rw [hRc]; exact Nat.le_of_ble_eq_true rfl) (by rw [hRs]; exact Nat.le_of_ble_eq_true rfl) dX11_init_266 dX11_init_268 (fun H locs hI hS => ?_)
  refine lv_aload_n hx hb dX11_init_271 rfl (lv_at hl 0 rfl) ?_
  refine lv_bipush (v := nI 40) hx hb dX11_init_272 (by decide) ?_
  refine mi_new (i := 33) (N := 40) (k := 55) (at9 := .int) (ty := .int) (tf := .int) (en := .inl (a 0, 40, .inl (fun _ => 0))) C hmn hI hS rfl q_198 (by decide) (by decide) rfl (fun cA h H1 e1 => by rw [mi_cell (t := 0) C rfl (fun _ h => by cases h) h] at e1; exact e1) (by decide) q_1231 (by decide +kernel) rfl (by rw [hRc]; exact Nat.le_of_ble_eq_true rfl) (by rw [hRs]; exact Nat.le_of_ble_eq_true rfl) dX11_init_274 dX11_init_276 (fun H locs hI hS => ?_)
  refine lv_aload_n hx hb dX11_init_279 rfl (lv_at hl 0 rfl) ?_
  refine lv_bipush (v := nI 40) hx hb dX11_init_280 (by decide) ?_
  refine mi_new (i := 34) (N := 40) (k := 56) (at9 := .boolean) (ty := .boolean) (tf := .boolean) (en := .inl (a 2, 40, .inl (fun _ => 0))) C hmn hI hS rfl q_1378 (by decide) (by decide) rfl (fun cA h H1 e1 => by rw [mi_cell (t := 2) C rfl (fun _ h => by cases h) h] at e1; exact e1) (by decide) q_1232 (by decide +kernel) rfl (by rw [hRc]; exact Nat.le_of_ble_eq_true rfl) (by rw [hRs]; exact Nat.le_of_ble_eq_true rfl) dX11_init_282 dX11_init_284 (fun H locs hI hS => ?_)
  refine lv_aload_n hx hb dX11_init_287 rfl (lv_at hl 0 rfl) ?_
  refine lv_bipush (v := nI 40) hx hb dX11_init_288 (by decide) ?_
  refine mi_new (i := 35) (N := 40) (k := 57) (at9 := .int) (ty := .int) (tf := .int) (en := .inl (a 0, 40, .inl (fun _ => 0))) C hmn hI hS rfl q_198 (by decide) (by decide) rfl (fun cA h H1 e1 => by rw [mi_cell (t := 0) C rfl (fun _ h => by cases h) h] at e1; exact e1) (by decide) q_1233 (by decide +kernel) rfl (by rw [hRc]; exact Nat.le_of_ble_eq_true rfl) (by rw [hRs]; exact Nat.le_of_ble_eq_true rfl) dX11_init_290 dX11_init_292 (fun H locs hI hS => ?_)
  refine lv_aload_n hx hb dX11_init_295 rfl (lv_at hl 0 rfl) ?_
  refine lv_bipush (v := nI 40) hx hb dX11_init_296 (by decide) ?_
  refine mi_new (i := 36) (N := 40) (k := 58) (at9 := .int) (ty := .int) (tf := .int) (en := .inl (a 0, 40, .inl (fun _ => 0))) C hmn hI hS rfl q_198 (by decide) (by decide) rfl (fun cA h H1 e1 => by rw [mi_cell (t := 0) C rfl (fun _ h => by cases h) h] at e1; exact e1) (by decide) q_1234 (by decide +kernel) rfl (by rw [hRc]; exact Nat.le_of_ble_eq_true rfl) (by rw [hRs]; exact Nat.le_of_ble_eq_true rfl) dX11_init_298 dX11_init_300 (fun H locs hI hS => ?_)
  refine lv_aload_n hx hb dX11_init_303 rfl (lv_at hl 0 rfl) ?_
  refine lv_bipush (v := nI 40) hx hb dX11_init_304 (by decide) ?_
  refine mi_new (i := 37) (N := 40) (k := 59) (at9 := .int) (ty := .int) (tf := .int) (en := .inl (a 0, 40, .inl (fun _ => 0))) C hmn hI hS rfl q_198 (by decide) (by decide) rfl (fun cA h H1 e1 => by rw [mi_cell (t := 0) C rfl (fun _ h => by cases h) h] at e1; exact e1) (by decide) q_1235 (by decide +kernel) rfl (by rw [hRc]; exact Nat.le_of_ble_eq_true rfl) (by rw [hRs]; exact Nat.le_of_ble_eq_true rfl) dX11_init_306 dX11_init_308 (fun H locs hI hS => ?_)
  refine lv_aload_n hx hb dX11_init_311 rfl (lv_at hl 0 rfl) ?_
  refine lv_bipush (v := nI 40) hx hb dX11_init_312 (by decide) ?_
  refine mi_new (i := 38) (N := 40) (k := 60) (at9 := .int) (ty := .int) (tf := .int) (en := .inl (a 0, 40, .inl (fun _ => 0))) C hmn hI hS rfl q_198 (by decide) (by decide) rfl (fun cA h H1 e1 => by rw [mi_cell (t := 0) C rfl (fun _ h => by cases h) h] at e1; exact e1) (by decide) q_1236 (by decide +kernel) rfl (by rw [hRc]; exact Nat.le_of_ble_eq_true rfl) (by rw [hRs]; exact Nat.le_of_ble_eq_true rfl) dX11_init_314 dX11_init_316 (fun H locs hI hS => ?_)
  refine lv_aload_n hx hb dX11_init_319 rfl (lv_at hl 0 rfl) ?_
  refine lv_bipush (v := nI 40) hx hb dX11_init_320 (by decide) ?_
  refine mi_new (i := 39) (N := 40) (k := 61) (at9 := .boolean) (ty := .boolean) (tf := .boolean) (en := .inl (a 2, 40, .inl (fun _ => 0))) C hmn hI hS rfl q_1378 (by decide) (by decide) rfl (fun cA h H1 e1 => by rw [mi_cell (t := 2) C rfl (fun _ h => by cases h) h] at e1; exact e1) (by decide) q_1237 (by decide +kernel) rfl (by rw [hRc]; exact Nat.le_of_ble_eq_true rfl) (by rw [hRs]; exact Nat.le_of_ble_eq_true rfl) dX11_init_322 dX11_init_324 (fun H locs hI hS => ?_)
  refine lv_aload_n hx hb dX11_init_327 rfl (lv_at hl 0 rfl) ?_
  refine lv_bipush (v := nI 10) hx hb dX11_init_328 (by decide) ?_
  refine mi_new (i := 40) (N := 10) (k := 62) (at9 := .int) (ty := .int) (tf := .int) (en := .inl (a 0, 10, .inl (fun _ => 0))) C hmn hI hS rfl q_198 (by decide) (by decide) rfl (fun cA h H1 e1 => by rw [mi_cell (t := 0) C rfl (fun _ h => by cases h) h] at e1; exact e1) (by decide) q_1238 (by decide +kernel) rfl (by rw [hRc]; exact Nat.le_of_ble_eq_true rfl) (by rw [hRs]; exact Nat.le_of_ble_eq_true rfl) dX11_init_330 dX11_init_332 (fun H locs hI hS => ?_)
  refine lv_aload_n hx hb dX11_init_335 rfl (lv_at hl 0 rfl) ?_
  refine lv_bipush (v := nI 10) hx hb dX11_init_336 (by decide) ?_
  refine mi_new (i := 41) (N := 10) (k := 63) (at9 := .boolean) (ty := .boolean) (tf := .boolean) (en := .inl (a 2, 10, .inl (fun _ => 0))) C hmn hI hS rfl q_1378 (by decide) (by decide) rfl (fun cA h H1 e1 => by rw [mi_cell (t := 2) C rfl (fun _ h => by cases h) h] at e1; exact e1) (by decide) q_1239 (by decide +kernel) rfl (by rw [hRc]; exact Nat.le_of_ble_eq_true rfl) (by rw [hRs]; exact Nat.le_of_ble_eq_true rfl) dX11_init_338 dX11_init_340 (fun H locs hI hS => ?_)
  refine lv_aload_n hx hb dX11_init_343 rfl (lv_at hl 0 rfl) ?_
  refine lv_bipush (v := nI 10) hx hb dX11_init_344 (by decide) ?_
  refine mi_new (i := 42) (N := 10) (k := 64) (at9 := .int) (ty := .int) (tf := .int) (en := .inl (a 0, 10, .inl (fun _ => 0))) C hmn hI hS rfl q_198 (by decide) (by decide) rfl (fun cA h H1 e1 => by rw [mi_cell (t := 0) C rfl (fun _ h => by cases h) h] at e1; exact e1) (by decide) q_1240 (by decide +kernel) rfl (by rw [hRc]; exact Nat.le_of_ble_eq_true rfl) (by rw [hRs]; exact Nat.le_of_ble_eq_true rfl) dX11_init_346 dX11_init_348 (fun H locs hI hS => ?_)
  refine lv_aload_n hx hb dX11_init_351 rfl (lv_at hl 0 rfl) ?_
  refine lv_bipush (v := nI 10) hx hb dX11_init_352 (by decide) ?_
  refine mi_new (i := 43) (N := 10) (k := 65) (at9 := .int) (ty := .int) (tf := .int) (en := .inl (a 0, 10, .inl (fun _ => 0))) C hmn hI hS rfl q_198 (by decide) (by decide) rfl (fun cA h H1 e1 => by rw [mi_cell (t := 0) C rfl (fun _ h => by cases h) h] at e1; exact e1) (by decide) q_1241 (by decide +kernel) rfl (by rw [hRc]; exact Nat.le_of_ble_eq_true rfl) (by rw [hRs]; exact Nat.le_of_ble_eq_true rfl) dX11_init_354 dX11_init_356 (fun H locs hI hS => ?_)
  refine lv_aload_n hx hb dX11_init_359 rfl (lv_at hl 0 rfl) ?_
  refine lv_iconst (v := nI 4) hx hb dX11_init_360 (by decide) ?_
  refine mi_new (i := 44) (N := 4) (k := 66) (at9 := .int) (ty := .int) (tf := .int) (en := .inl (a 0, 4, .inl (fun _ => 0))) C hmn hI hS rfl q_198 (by decide) (by decide) rfl (fun cA h H1 e1 => by rw [mi_cell (t := 0) C rfl (fun _ h => by cases h) h] at e1; exact e1) (by decide) q_1242 (by decide +kernel) rfl (by rw [hRc]; exact Nat.le_of_ble_eq_true rfl) (by rw [hRs]; exact Nat.le_of_ble_eq_true rfl) dX11_init_361 dX11_init_363 (fun H locs hI hS => ?_)
  obtain ⟨g1, g2, g3, g4⟩ := hI
  refine ret _ _ _ _ hS dX11_init_366 ⟨rfl, g1, fun k q hk => ?_⟩
  rcases k with _ | k
  · cases hk; rw [mi_fs] at g2; exact g2
  · have hkl := (List.getElem?_eq_some_iff.mp hk).1
    exact g4 k q (by have h9 : (mW a mo μ0).length = 46 := rfl; omega) hk
