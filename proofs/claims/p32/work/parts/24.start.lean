/-! ===== what stands at the law's entry ===== -/
theorem tb_of {args : Array Value} {s : State} (hts : ∀ w ∈ lw_tbl, w.before args s = true) : ∀ w ∈ TB, w.before args s = true := fun w hw => hts w (List.mem_filter.mp hw).1
theorem k_cls {args : Array Value} {s : State} (hts : ∀ w ∈ TB, w.before args s = true) : ∀ ci : Nat, ∃ r : ClassId × (Nat → Nat), ∀ q, vwCl[ci]? = some q → u_Kn s q.1 q.2.1 q.2.2 r.1 r.2 := by
  intro ci
  rcases (show ci = 0 ∨ ci = 1 ∨ ci = 2 ∨ ci = 3 ∨ ci = 4 ∨ ci = 5 ∨ ci = 6 ∨ ci = 7 ∨ ci = 8 ∨ ci = 9 ∨ ci = 10 ∨ ci = 11 ∨ 12 ≤ ci by omega) with rfl | rfl | rfl | rfl | rfl | rfl | rfl | rfl | rfl | rfl | rfl | rfl | h
  · obtain ⟨c, i, h⟩ := u_known (ws := TB) hts tb_AL (hts _ q_59)
    exact ⟨(c, i), fun q hq => by cases hq; exact h⟩
  · obtain ⟨c, i, h⟩ := u_known (ws := TB) hts tb_X0 (hts _ q_384)
    exact ⟨(c, i), fun q hq => by cases hq; exact h⟩
  · obtain ⟨c, i, h⟩ := u_known (ws := TB) hts tb_X0 (hts _ q_384)
    exact ⟨(c, i), fun q hq => by cases hq; exact h⟩
  · obtain ⟨c, i, h⟩ := u_known (ws := TB) hts tb_X2 (hts _ q_85)
    exact ⟨(c, i), fun q hq => by cases hq; exact h⟩
  · obtain ⟨c, i, h⟩ := u_known (ws := TB) hts tb_X3 (hts _ q_100)
    exact ⟨(c, i), fun q hq => by cases hq; exact h⟩
  · obtain ⟨c, i, h⟩ := u_known (ws := TB) hts tb_X4 (hts _ q_121)
    exact ⟨(c, i), fun q hq => by cases hq; exact h⟩
  · obtain ⟨c, i, h⟩ := u_known (ws := TB) hts tb_X0 (hts _ q_384)
    exact ⟨(c, i), fun q hq => by cases hq; exact h⟩
  · obtain ⟨c, i, h⟩ := u_known (ws := TB) hts tb_X6 (hts _ q_559)
    exact ⟨(c, i), fun q hq => by cases hq; exact h⟩
  · obtain ⟨c, i, h⟩ := u_known (ws := TB) hts tb_X7 (hts _ q_762)
    exact ⟨(c, i), fun q hq => by cases hq; exact h⟩
  · obtain ⟨c, i, h⟩ := u_known (ws := TB) hts tb_X8 (hts _ q_664)
    exact ⟨(c, i), fun q hq => by cases hq; exact h⟩
  · obtain ⟨c, i, h⟩ := u_known (ws := TB) hts tb_X9 (hts _ q_633)
    exact ⟨(c, i), fun q hq => by cases hq; exact h⟩
  · obtain ⟨c, i, h⟩ := u_known (ws := TB) hts tb_X10 (hts _ q_51)
    exact ⟨(c, i), fun q hq => by cases hq; exact h⟩
  · exact ⟨(0, fun _ => 0), fun q hq => by
      rw [List.getElem?_eq_none (by show 12 ≤ ci; exact h)] at hq
      cases hq⟩
theorem k_arr {args : Array Value} {s : State} {ty : FieldType} (hp : ∀ C, ty ≠ .object C) (h : (Cond.arrayClass ty).before args s = true) : ∃ cA : ClassId, ArrOfT s cA ty ∧ va_RA s cA ty := by
  obtain ⟨cA, k, comp, h1, h2, h3⟩ := Cond.arrayClass_spec h
  refine ⟨cA, fun n z => ⟨(fun k h => by cases h), k, h2, comp, h3⟩, ?_⟩
  cases ty with
  | object C => exact absurd rfl (hp C)
  | _ => exact h1
theorem k_arrO {args : Array Value} {s : State} {C : String} (h : (Cond.arrayOver (.object C)).before args s = true) : ∃ cA : ClassId, ArrOfT s cA (.object C) ∧ va_RA s cA (.object C) := by
  obtain ⟨comp, c, k, h1, h2, h3, h4, h5⟩ := Cond.arrayOver_spec h
  exact ⟨c, fun n z => ⟨(fun k h => by cases h), k, h3, comp, h4⟩, k, comp, h3, h4, h1, h5⟩
theorem k_known {args : Array Value} {s : State} (hts : ∀ w ∈ lw_tbl, w.before args s = true) : ∃ (D : va_G) (a : Nat → ClassId), va_K D vwCl (tyL a) s := by
  obtain ⟨F, hF⟩ := Classical.axiomOfChoice (k_cls (tb_of hts))
  obtain ⟨a0, h0⟩ := k_arr (ty := .int) (fun _ h => by cases h) (tb_of hts _ q_170)
  obtain ⟨a1, h1⟩ := k_arr (ty := .long) (fun _ h => by cases h) (tb_of hts _ q_850)
  obtain ⟨a2, h2⟩ := k_arr (ty := .int) (fun _ h => by cases h) (tb_of hts _ q_170)
  obtain ⟨a3, h3⟩ := k_arrO (C := "FireNet$Rule") (hts _ (List.mem_of_getElem? (i := 119) (by decide +kernel)))
  obtain ⟨a4, h4⟩ := k_arrO (C := "java/lang/Object") (hts _ (List.mem_of_getElem? (i := 227) (by decide +kernel)))
  refine ⟨(fun ci => (F ci).1, fun ci => (F ci).2), fun k => match k with | 0 => a0 | 1 => a1 | 2 => a2 | 3 => a3 | _ => a4, fun c q hq => hF c q hq, fun k q hk => ?_⟩
  rcases (show k = 0 ∨ k = 1 ∨ k = 2 ∨ k = 3 ∨ k = 4 ∨ 5 ≤ k by omega) with rfl | rfl | rfl | rfl | rfl | h
  · cases hk; exact h0
  · cases hk; exact h1
  · cases hk; exact h2
  · cases hk; exact h3
  · cases hk; exact h4
  · rw [List.getElem?_eq_none (by show 5 ≤ k; exact h)] at hk
    cases hk
theorem nbw_tbl : ∀ w ∈ NBW, w ∈ lw_tbl ∧ w.onTables = true := by decide +kernel
theorem strw_ok : ∀ r ∈ STRW, Cond.stringRef r.1 r.2.1 r.2.2 ∈ lw_tbl ∧ Cond.exactly (.string r.1 r.2.1) "java/lang/String" ∈ flatC (Jvm.Cond.and given_1 narrow_1) := by decide +kernel
theorem law_fw {args : Array Value} {s : State} (hts : ∀ w ∈ lw_tbl, w.before args s = true) : va_Fw RJx4a65c yL_size yJx4a65c_size_8abf5 s ∧ va_Fw RJx4a65c yL_get yJx4a65c_get_915e3 s ∧ va_Fw RJx4a65c yL_add yJx4a65c_add_9ea2d s := by
  refine ⟨va_Fw.of (A := args) (hts _ ?_) (hts _ ?_) (hts _ ?_) (hts _ ?_) (hts _ ?_), va_Fw.of (A := args) (hts _ ?_) (hts _ ?_) (hts _ ?_) (hts _ ?_) (hts _ ?_), va_Fw.of (A := args) (hts _ ?_) (hts _ ?_) (hts _ ?_) (hts _ ?_) (hts _ ?_)⟩
  · exact List.mem_of_getElem? (i := 361) (by decide +kernel)
  · exact List.mem_of_getElem? (i := 360) (by decide +kernel)
  · exact List.mem_of_getElem? (i := 365) (by decide +kernel)
  · exact List.mem_of_getElem? (i := 363) (by decide +kernel)
  · exact List.mem_of_getElem? (i := 175) (by decide +kernel)
  · exact List.mem_of_getElem? (i := 430) (by decide +kernel)
  · exact List.mem_of_getElem? (i := 429) (by decide +kernel)
  · exact List.mem_of_getElem? (i := 434) (by decide +kernel)
  · exact List.mem_of_getElem? (i := 432) (by decide +kernel)
  · exact List.mem_of_getElem? (i := 175) (by decide +kernel)
  · exact List.mem_of_getElem? (i := 174) (by decide +kernel)
  · exact List.mem_of_getElem? (i := 173) (by decide +kernel)
  · exact List.mem_of_getElem? (i := 179) (by decide +kernel)
  · exact List.mem_of_getElem? (i := 177) (by decide +kernel)
  · exact List.mem_of_getElem? (i := 175) (by decide +kernel)
theorem law_ev {args : Array Value} {s : State} {D : va_G} {a : Nat → ClassId} (hK : va_K D vwCl (tyL a) s) (hts : ∀ w ∈ lw_tbl, w.before args s = true) (hgv : (Jvm.Cond.and given_1 narrow_1).before args s = true) : ∃ e0, EV D a e0 (fun q => s.heap.size ≤ q) s s.heap := by
  have hs := flat_of_before _ hgv
  have hA : ∀ q : Nat, q < s.heap.size → ¬ s.heap.size ≤ q := fun q h => by omega
  obtain ⟨e0, he, hT⟩ := va_Tof (args := args) (s := s) (tm := .static "java/util/ArrayList" "DEFAULTCAPACITY_EMPTY_ELEMENTDATA" "[Ljava/lang/Object;") (ty := .object "java/lang/Object") (N := 0) (f := fun _ => .null) (A := fun q => s.heap.size ≤ q) (by decide) (hs _ (by decide +kernel)) (va_eqt (z := 0) (hs _ (by decide +kernel))) (fun j h => absurd h (Nat.not_lt_zero _)) hA
  obtain ⟨mi, hMi⟩ := va_Mi.of (args := args) (s := s) (C := "[Ljava/lang/Object;") (hs _ (by decide +kernel))
  refine ⟨e0, hK, fun w hw => va_Nw.of (nbw_tbl w hw).2 (hts w (nbw_tbl w hw).1), fun r hr => ?_, vx_Zqof (args := args) (hts _ (List.mem_of_getElem? (i := 317) (by decide +kernel))) (hts _ ?_) (hs _ (by decide +kernel)) hA, vx_Zqof (args := args) (hts _ (List.mem_of_getElem? (i := 319) (by decide +kernel))) (hts _ ?_) (hs _ (by decide +kernel)) hA, fun q h => h, law_fw hts, va_Zof (hts _ (List.mem_of_getElem? (i := 71) (by decide +kernel))) (tb_of hts _ q_29) he hA, ⟨_, hT⟩, ⟨mi, hMi⟩, va_Dc.of (A := args) (hts _ (List.mem_of_getElem? (i := 927) (by decide +kernel))), va_AO.of (A := args) (hts _ (List.mem_of_getElem? (i := 227) (by decide +kernel)))⟩
  · obtain ⟨g1, g2⟩ := strw_ok r hr
    obtain ⟨sa, -, -, -, hsa, -⟩ := Cond.exactly_spec (hs _ g2)
    exact ⟨sa, vk_R.of (A := args) (hts _ g1) hsa⟩
  · exact List.mem_of_getElem? (i := 37) (by decide +kernel)
  · exact List.mem_of_getElem? (i := 37) (by decide +kernel)
