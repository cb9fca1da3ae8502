/-! THE CLAIM OUT OF ONE WALK OF THE LAW'S BODY. Your part is whole_start (and what it stands on); all else here is the same for every law, but numbers. -/
def R_law : String := "FireNetLaw"
def lw_P (b : Addr) (xs : List Int32) (args : Array Value) (s : State) : Prop := args = #[.ref b] ∧ s.IntsAt b xs ∧ xs.length ≤ 3072 ∧ (Jvm.Cond.and given_1 narrow_1).before args s = true
def lw_Q (_ : Array Value) (s : State) (o : Outcome) (t : State) : Prop := o = .returned (some (.int 1)) ∧ Framed s o t [] 601024 7293034
def lw_Z (below : List Frame) (a : Array Value) (s : State) : State → Prop := fun t => ∃ o, t.status = .running ∧ Ended t below o ∧ lw_Q a s o t
/-- the law's own end, with 1 on the stack, nothing written that was there before, its room as the claim has it -/
theorem lw_ret {p : Program} {l : Launch} {e : Env} {s : State} {m : MethodId} {below : List Frame} {meth : Method} {c : Code} {b : Nat} (hx : p.tables.exec = Jvm.exec) (hb : c.code = code) (hr : meth.sig.returnType = ret) (hlocks : meth.locks = false) {pc : Nat} {H : Heap} {ls : Array Slot} (hdg : decode code pc = .ok (.ireturn, 1)) : W p l e room_1 s m #[Value.ref b] below meth c H [] 601024 7293034 (lw_Z below #[Value.ref b] s) (F0 m pc ls [.int 1]) := by
  intro T hT X
  obtain ⟨fs, hret, hrun, hended, hW, hframe⟩ := X.leave (v := some (.int 1)) (hlocks := hlocks) (fun h => by rw [hr] at h; cases h)
  have hmeth' : T.vm.method? m = some meth := X.method'
  refine ⟨T.setFrames fs, ?_, .returned (some (.int 1)), hrun, hended, rfl, ⟨_, rfl⟩, hW, hframe⟩
  jvm_step X.here [X.here.top, hx, hb, hdg, hmeth', hr, ret, narrow_b1]
  (try refine ⟨rfl, ?_⟩); (try refine ⟨rfl, ?_⟩)
  first | (intro acts; rw [hret _ acts rfl rfl rfl]) | rw [hret _ _ rfl rfl rfl]
  exact Steps.refl _
/-- what holds at the law's entry: the machine, the code, the tables' words (any of lw_tbl by 'hts w (by decide +kernel)'), the script of L ints xs at the cell b, what the Statement gives of the start (any of its parts by flat_of_before) -/
def lw_At (p : Program) (s : State) (m : MethodId) (meth : Method) (c : Code) (b L : Nat) (xs : Nat → Int32) : Prop :=
  p.tables.exec = Jvm.exec ∧ c.code = code ∧ meth.sig.returnType = ret ∧ c.maxLocals = 8 ∧ s.vm.findClass R_law = some m.cls ∧ (∀ w ∈ lw_tbl, w.before #[Value.ref b] s = true) ∧ va_X b L xs s s.heap ∧ b < s.heap.size ∧ meth.locks = false ∧ (Jvm.Cond.and given_1 narrow_1).before #[Value.ref b] s = true
theorem whole_of (Rep : XS → Nat → MS → Prop) (b_camera : Br_camera Rep) (b_clock : Br_clock Rep) (b_cloud : Br_cloud Rep) (b_begin : Br_begin Rep) (b_end : Br_end Rep) (b_fireball : Br_fireball Rep) (b_fireballAnew : Br_fireballAnew Rep) (b_fireballs : Br_fireballs Rep) (b_told : Br_told Rep) (b_stream : Br_stream Rep) (b_flux : Br_flux Rep) (b_wind : Br_wind Rep) (b_walk : Br_walk Rep) (b_chance : Br_chance Rep) (b_find : Br_find Rep) (b_fall : Br_fall Rep) (b_minerals : Br_minerals Rep) (b_rule : Br_rule Rep) (b_classOf : Br_classOf Rep) (b_pair : Br_pair Rep) (b_cut : Br_cut Rep) (b_lend : Br_lend Rep) (b_steal : Br_steal Rep) (b_law : Br_law Rep) (b_give : Br_give Rep) (b_name : Br_name Rep) (b_doubt : Br_doubt Rep) (b_stone : Br_stone Rep) (b_whole : Br_whole Rep) (hR0 : ∀ σ x, 0 < x → XI x 60 σ → Rep σ x μ0) {p : Program} {e : Env} {s : State} {m : MethodId} {below : List Frame} {meth : Method} {c : Code} (l : Launch) (hflags : l.flags = flags0) {b L : Nat} {xs : Nat → Int32} (hL : L ≤ 3072) (C0 : lw_At p s m meth c b L xs) : W p l e room_1 s m #[Value.ref b] below meth c s.heap [] 0 0 (lw_Z below #[Value.ref b] s) (entryFrame m ([Value.ref b] : List Value).toArray 8) := by
  obtain ⟨h1, h2, h3, h4, h5, h6, h7, h8, h9, h10⟩ := C0
  obtain ⟨D, a, hK⟩ := k_known h6
  obtain ⟨e0, hE⟩ := law_ev hK h6 h10
  have C : Cx D a p s m #[Value.ref b] c cL_law_ 8 RL := ⟨⟨h1, h2, h4, h5, tb_of h6⟩, hK⟩
  have hfl : l.stackTraces = false := by
    unfold Launch.stackTraces
    rw [hflags]
    decide
  have hNc : ∀ r ∈ NCW, va_Nc r.1 r.2 s := fun r hr => va_Nc.of (args := #[Value.ref b]) (flat_of_before _ h10 _ (ncw_ok r hr))
  rw [lg_entry_eq]
  refine law_run Rep b_camera b_clock b_cloud b_begin b_end b_fireball b_fireballAnew b_fireballs b_told b_stream b_flux b_wind b_walk b_chance b_find b_fall b_minerals b_rule b_classOf b_pair b_cut b_lend b_steal b_law b_give b_name b_doubt b_stone b_whole hR0 hfl (x := s.heap.size) (N := L) rfl C hE (va_AO.of (A := #[Value.ref b]) (h6 _ (List.mem_of_getElem? (i := 147) (by decide +kernel)))) hNc h7 h8 hL rfl rfl rfl rfl (lv_entry [Value.ref b] (n := 8) (Nat.le_of_ble_eq_true rfl)) (fun H locs ls hS => ?_)
  intro T hT X
  exact lw_ret h1 h2 h3 h9 dL_law__2221 T hT (Stand.forget (locs := []) X (fun q hq => hS.2.2 q hq))
