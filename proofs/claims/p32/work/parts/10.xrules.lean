/-! ===== rules of the class's memory: lists, rows, new things, calls ===== -/
section XR1
variable {D : va_G} {a : Nat → ClassId} {x e0 : Nat} {A : Nat → Prop} {σ : XS} {H H0 H1 : Heap} {locs locs1 : List Loc} {q K : Nat}
theorem HX.set {σ' : XS} {en : va_E} (h : HX D a x e0 A σ H0 H locs) (hs : ∀ Mp ow, XSh a x e0 σ Mp ow → (∃ en0, Mp q = some en0) ∧ XSh a x e0 σ' (va_up Mp q (some en)) ow) (e1 : va_at D vwCl (q, en) H1) (e3 : ∀ z, z ≠ q → H1[z]? = H[z]?) (e4 : A q → va_S A H0 H locs → va_S A H0 H1 locs1) : HX D a x e0 A σ' H0 H1 locs1 := by
  obtain ⟨⟨Mp, ow, hM, hsh⟩, hS⟩ := h
  obtain ⟨⟨en0, h0⟩, hsh'⟩ := hs Mp ow hsh
  refine ⟨⟨va_up Mp q (some en), ow, ?_, hsh'⟩, e4 (hM _ _ h0).2.1 hS⟩
  intro z en' hz
  by_cases hzq : z = q
  · subst hzq
    rw [va_up_self] at hz
    cases hz
    exact ⟨e1, (hM _ _ h0).2⟩
  · rw [va_up_ne _ _ hzq] at hz
    exact ⟨(hM z en' hz).1.kept (e3 z hzq), (hM z en' hz).2⟩
theorem xs_kind {Mp : Nat → Option va_E} {z q : Nat} {en en' : va_E} (hz : Mp z = some en) (hq : Mp q = some en') (hne : en ≠ en') {w : Option va_E} : va_up Mp q w z = some en := by
  rw [va_up_ne]
  · exact hz
  · rintro rfl
    exact hne (Option.some.inj (hz.symm.trans hq))
theorem inl_kind {cA cB : ClassId} {n k : Nat} {f : Nat → Int32} {g : Nat → Option Nat} : (Sum.inl (cA, n, .inr (.inr (.inr (.inr g)))) : va_E) ≠ .inl (cB, k, .inl f) := fun h => by
  have h1 := congrArg Prod.snd (congrArg Prod.snd (Sum.inl.inj h))
  cases h1
theorem xs_laws {i : Nat} {v : Int32} (Mp : Nat → Option va_E) (ow : Nat → Nat) (h : XSh a x e0 σ Mp ow) : (∃ en0, Mp (x + 12) = some en0) ∧ XSh a x e0 (xI σ 240 i v) (va_up Mp (x + 12) (some (.inl (a 0, 4, .inl (upd (fun j => xi σ 240 j) i v))))) ow := by
  obtain ⟨s1, s2, s3, s4, s5, s6⟩ := h
  refine ⟨⟨_, s3⟩, xs_kind s1 s3 (by simp), ?_, ?_, ?_, ?_, ?_⟩
  · rw [va_up_ne _ _ (by omega)]; exact s2
  · rw [va_up_self]
    congr 4
  · rw [va_up_ne _ _ (by omega)]
    exact s4
  · intro j hj
    obtain ⟨mc, ar, h1, h2⟩ := s5 j hj
    refine ⟨mc, ar, xs_kind h1 s3 (by simp), ?_⟩
    rcases h2 with r | ⟨cap, g, r1, r2⟩
    · exact Or.inl r
    · exact Or.inr ⟨cap, g, xs_kind r1 s3 inl_kind, r2⟩
  · intro z hz
    obtain ⟨z1, z2⟩ := s6 z hz
    refine ⟨z1, ?_⟩
    have e : xF (xI σ 240 i v) (xk σ z) z = xF σ (xk σ z) z := by
      unfold xF
      split <;> simp [xi, xj, xr, xI, up2]
    show va_up Mp _ _ z = some (.inr (xk σ z, xF (xI σ 240 i v) (xk σ z) z))
    rw [e]
    exact xs_kind z2 s3 (by simp)
theorem xs_names {i : Nat} {v : Int32} (Mp : Nat → Option va_E) (ow : Nat → Nat) (h : XSh a x e0 σ Mp ow) : (∃ en0, Mp (x + 13) = some en0) ∧ XSh a x e0 (xI σ 241 i v) (va_up Mp (x + 13) (some (.inl (a 0, 10, .inl (upd (fun j => xi σ 241 j) i v))))) ow := by
  obtain ⟨s1, s2, s3, s4, s5, s6⟩ := h
  refine ⟨⟨_, s4⟩, xs_kind s1 s4 (by simp), ?_, ?_, ?_, ?_, ?_⟩
  · rw [va_up_ne _ _ (by omega)]; exact s2
  · rw [va_up_ne _ _ (by omega)]
    exact s3
  · rw [va_up_self]
    congr 4
  · intro j hj
    obtain ⟨mc, ar, h1, h2⟩ := s5 j hj
    refine ⟨mc, ar, xs_kind h1 s4 (by simp), ?_⟩
    rcases h2 with r | ⟨cap, g, r1, r2⟩
    · exact Or.inl r
    · exact Or.inr ⟨cap, g, xs_kind r1 s4 inl_kind, r2⟩
  · intro z hz
    obtain ⟨z1, z2⟩ := s6 z hz
    refine ⟨z1, ?_⟩
    have e : xF (xI σ 241 i v) (xk σ z) z = xF σ (xk σ z) z := by
      unfold xF
      split <;> simp [xi, xj, xr, xI, up2]
    show va_up Mp _ _ z = some (.inr (xk σ z, xF (xI σ 241 i v) (xk σ z) z))
    rw [e]
    exact xs_kind z2 s4 (by simp)
theorem xs_rules {i v : Nat} (hv : v ≠ 0) (h34 : a 3 ≠ a 4) (Mp : Nat → Option va_E) (ow : Nat → Nat) (h : XSh a x e0 σ Mp ow) : (∃ en0, Mp (x + 11) = some en0) ∧ XSh a x e0 (xR σ 242 i v) (va_up Mp (x + 11) (some (.inl (a 3, 10, .inr (.inr (.inr (.inr (va_up (fun j => rq (xr σ 242 j)) i (some v))))))))) ow := by
  obtain ⟨s1, s2, s3, s4, s5, s6⟩ := h
  refine ⟨⟨_, s2⟩, ?_⟩
  refine ⟨xs_kind s1 s2 (by simp), ?_, ?_, ?_, ?_, ?_⟩
  · rw [va_up_self]
    have e : va_up (fun j => rq (xr σ 242 j)) i (some v) = fun j => rq (xr (xR σ 242 i v) 242 j) := by
      funext j
      simp only [va_up, xr, xR, up2_at, if_true]
      split
      · simp [rq, hv]
      · rfl
    rw [e]
  · rw [va_up_ne _ _ (by omega)]; exact s3
  · rw [va_up_ne _ _ (by omega)]; exact s4
  · intro j hj
    obtain ⟨mc, ar, h1, h2⟩ := s5 j hj
    refine ⟨mc, ar, xs_kind h1 s2 (by simp), ?_⟩
    rcases h2 with r | ⟨cap, g, r1, r2⟩
    · exact Or.inl r
    · exact Or.inr ⟨cap, g, xs_kind r1 s2 (fun h => h34 (congrArg Prod.fst (Sum.inl.inj h)).symm), r2⟩
  · intro z hz
    obtain ⟨z1, z2⟩ := s6 z hz
    refine ⟨z1, ?_⟩
    have e : xF (xR σ 242 i v) (xk σ z) z = xF σ (xk σ z) z := by
      unfold xF
      split <;> simp [xi, xj, xr, xR, up2]
    show va_up Mp _ _ z = some (.inr (xk σ z, xF (xR σ 242 i v) (xk σ z) z))
    rw [e]
    exact xs_kind z2 s2 (by simp)
theorem xP_fresh (h : XP D a x e0 A σ H) : xk σ H.size = 0 := by
  obtain ⟨Mp, ow, hM, -, -, -, -, -, hp⟩ := h
  by_cases h0 : xk σ H.size = 0
  · exact h0
  · have := (hM _ _ (hp _ h0).2).1.lt
    exact absurd this (Nat.lt_irrefl _)
theorem HX.new (h : HX D a x e0 A σ H0 H locs) (hK : 1 ≤ K ∧ K ≤ 10 ∧ K ≠ 2 ∧ K ≠ 6) (hq : q = H.size) (hA : A q) (h0 : 0 < q) (e1 : va_at D vwCl (q, .inr (K, xF (xNew σ K q) K q)) H1) (e2 : H1.size = H.size + 1) (e3 : ∀ z, z < H.size → H1[z]? = H[z]?) : HX D a x e0 A (xNew σ K q) H0 H1 locs := by
  have hfr := xP_fresh h.1
  obtain ⟨⟨Mp, ow, hM, s1, s2, s3, s4, s5, s6⟩, hS⟩ := h
  have hn : ∀ {z : Nat} {en : va_E}, Mp z = some en → va_up Mp q (some (.inr (K, xF (xNew σ K q) K q))) z = some en := by
    intro z en hz
    rw [va_up_ne]
    · exact hz
    · rintro rfl
      have := (hM _ _ hz).1.lt
      simp only at this
      omega
  have c1 : ¬ (223 : Nat) / 20 = K := by omega
  have c2 : ¬ (242 : Nat) / 20 = K := by omega
  have c3 : ¬ (240 : Nat) / 20 = K := by omega
  have c4 : ¬ (241 : Nat) / 20 = K := by omega
  refine ⟨⟨va_up Mp q (some (.inr (K, xF (xNew σ K q) K q))), ow, ?_, ?_, ?_, ?_, ?_, ?_, ?_⟩, ⟨by have := hS.1; omega, fun z h1 h2 => by rw [e3 z (Nat.lt_of_lt_of_le h1 hS.1)]; exact hS.2.1 z h1 h2, hS.2.2⟩⟩
  · intro z en hz
    by_cases hzq : z = q
    · subst hzq
      rw [va_up_self] at hz
      cases hz
      exact ⟨e1, hA, h0⟩
    · rw [va_up_ne _ _ hzq] at hz
      exact ⟨(hM z en hz).1.kept (e3 z (hM z en hz).1.lt), (hM z en hz).2⟩
  · rw [show xTop x (xNew σ K q) = xTop x σ by simp only [xTop, xr, xNew, if_neg c1]]
    exact hn s1
  · rw [show (fun i => rq (xr (xNew σ K q) 242 i)) = fun i => rq (xr σ 242 i) from funext fun i => by simp only [xr, xNew, if_neg c2]]
    exact hn s2
  · rw [show (fun i => xi (xNew σ K q) 240 i) = fun i => xi σ 240 i from funext fun i => by simp only [xi, xNew, if_neg c3]]
    exact hn s3
  · rw [show (fun i => xi (xNew σ K q) 241 i) = fun i => xi σ 241 i from funext fun i => by simp only [xi, xNew, if_neg c4]]
    exact hn s4
  · intro j hj
    obtain ⟨mc, ar, h1, h2⟩ := s5 j hj
    refine ⟨mc, ar, hn h1, ?_⟩
    rcases h2 with r | ⟨cap, g, r1, r2⟩
    · exact Or.inl r
    · exact Or.inr ⟨cap, g, hn r1, r2⟩
  · intro z hz
    by_cases hzq : z = q
    · subst hzq
      have e : xk (xNew σ K z) z = K := va_up_self _ _ _
      rw [e, va_up_self]
      exact ⟨hK.2, rfl⟩
    · have e : xk (xNew σ K q) z = xk σ z := va_up_ne _ _ hzq
      rw [e] at hz ⊢
      rw [show xF (xNew σ K q) (xk σ z) z = xF σ (xk σ z) z from xF_congr (fun c => by simp [xi, xNew, hzq]) (fun c => by simp [xj, xNew, hzq]) (fun c => by simp [xr, xNew, hzq])]
      exact ⟨(s6 z hz).1, hn (s6 z hz).2⟩
end XR1
section XR2
variable {p : Program} {l : Launch} {e : Env} {R : Room} {s : State} {m : MethodId} {args : Array Value} {below : List Frame} {meth : Method} {c : Code} {H : Heap} {locs : List Loc} {cells slots : Nat} {Q : State → Prop} {D : va_G} {a : Nat → ClassId} {x e0 : Nat} {A : Nat → Prop} {σ : XS} {cc : ByteArray} {nL : Nat} {pc : Nat} {ls : Array Slot} {rest st : List Value} {q : Nat}
theorem wx_iast {cl : List vw_C} {tys : List (ClassId × FieldType)} (hexec : p.tables.exec = Jvm.exec) (hb : c.code = cc) (hK : va_K D cl tys s) (t0 : Nat) {cA : ClassId} {n : Nat} {f : Nat → Int32} (hat : va_at D cl (q, .inl (cA, n, .inl f)) H) (ht : tys[t0]? = some (cA, .int)) {i : Int32} {v : Int32} (hin : vp_in i n) (hdg : decode cc pc = .ok (.iastore, 1))
    (kk : ∀ (H1 : Heap) (locs1 : List Loc), va_at D cl (q, .inl (cA, n, .inl (upd f i.toNatClampNeg v))) H1 → H1.size = H.size → (∀ z, z ≠ q → H1[z]? = H[z]?) → (∀ {A : Nat → Prop} {H0 : Heap}, A q → va_S A H0 H locs → va_S A H0 H1 locs1) → W p l e R s m args below meth c H1 locs1 cells slots Q (F0 m (pc + 1) ls rest)) : W p l e R s m args below meth c H locs cells slots Q (F0 m pc ls (.int v :: .int i :: .ref q :: rest)) := by
  refine W.iast hexec hb hat ((hK.2 t0 _ ht).1 n (fun j => .int (f j))) (fun q => by cases q) (by show ¬ (i < 0 ∨ (arrV _ _ _).slots.size ≤ _); rw [arrV_size]; exact hin) rfl rfl hdg fun H1 e z oq => ?_
  refine kk H1 _ ?_ z oq (fun hA hS => hS.put z oq hA)
  show H1[q]? = some (vp_cell _ _)
  rw [e]
  rw [vp_cell_i, vp_cell_i, arrV_store]
  congr 2
  funext j
  by_cases hq : j = i.toNatClampNeg
  · subst hq
    simp [updV, upd]
  · simp [updV, upd, hq]
/-- the rows of ints: their lengths, reading, writing -/
theorem xa_laws (h : XP D a x e0 A σ H) : va_at D vwCl (x + 12, .inl (a 0, 4, .inl (fun i => xi σ 240 i))) H := by
  obtain ⟨Mp, ow, hM, -, -, h3, -⟩ := h
  exact (hM _ _ h3).1
theorem xa_names (h : XP D a x e0 A σ H) : va_at D vwCl (x + 13, .inl (a 0, 10, .inl (fun i => xi σ 241 i))) H := by
  obtain ⟨Mp, ow, hM, -, -, -, h4, -⟩ := h
  exact (hM _ _ h4).1
theorem xa_rules (h : XP D a x e0 A σ H) : va_at D vwCl (x + 11, .inl (a 3, 10, .inr (.inr (.inr (.inr (fun i => rq (xr σ 242 i))))))) H := by
  obtain ⟨Mp, ow, hM, -, h2, -⟩ := h
  exact (hM _ _ h2).1
variable {own : String}
theorem xlen_12 (C : Cx D a p s m args c cc nL own) (hX : HX D a x e0 A σ s.heap H locs) (hdg : decode cc pc = .ok (.arraylength, 1)) (k : W p l e R s m args below meth c H locs cells slots Q (F0 m (pc + 1) ls (.int 4 :: rest))) : W p l e R s m args below meth c H locs cells slots Q (F0 m pc ls (.ref (x + 12) :: rest)) := va_alen (D := D) (cl := vwCl) (tys := tyL a) (ty := .int) C.1.1 C.1.2.1 C.2 (va_at_single (xa_laws hX.1)) 0 0 rfl rfl rfl hdg k
theorem xlen_13 (C : Cx D a p s m args c cc nL own) (hX : HX D a x e0 A σ s.heap H locs) (hdg : decode cc pc = .ok (.arraylength, 1)) (k : W p l e R s m args below meth c H locs cells slots Q (F0 m (pc + 1) ls (.int 10 :: rest))) : W p l e R s m args below meth c H locs cells slots Q (F0 m pc ls (.ref (x + 13) :: rest)) := va_alen (D := D) (cl := vwCl) (tys := tyL a) (ty := .int) C.1.1 C.1.2.1 C.2 (va_at_single (xa_names hX.1)) 0 0 rfl rfl rfl hdg k
theorem xlen_11 (C : Cx D a p s m args c cc nL own) (hX : HX D a x e0 A σ s.heap H locs) (hdg : decode cc pc = .ok (.arraylength, 1)) (k : W p l e R s m args below meth c H locs cells slots Q (F0 m (pc + 1) ls (.int 10 :: rest))) : W p l e R s m args below meth c H locs cells slots Q (F0 m pc ls (.ref (x + 11) :: rest)) := va_alen (D := D) (cl := vwCl) (tys := tyL a) (ty := .object "FireNet$Rule") C.1.1 C.1.2.1 C.2 (va_at_single (xa_rules hX.1)) 0 3 rfl rfl rfl hdg k
theorem xald_12 (C : Cx D a p s m args c cc nL own) (hX : HX D a x e0 A σ s.heap H locs) {i : Int32} (hin : vp_in i 4) (hdg : decode cc pc = .ok (.iaload, 1)) (k : W p l e R s m args below meth c H locs cells slots Q (F0 m (pc + 1) ls (.int (xi σ 240 (ix i)) :: rest))) : W p l e R s m args below meth c H locs cells slots Q (F0 m pc ls (.int i :: .ref (x + 12) :: rest)) := va_iald (D := D) (cl := vwCl) (tys := tyL a) C.1.1 C.1.2.1 C.2 (va_at_single (xa_laws hX.1)) 0 0 rfl rfl hin hdg k
theorem xald_13 (C : Cx D a p s m args c cc nL own) (hX : HX D a x e0 A σ s.heap H locs) {i : Int32} (hin : vp_in i 10) (hdg : decode cc pc = .ok (.iaload, 1)) (k : W p l e R s m args below meth c H locs cells slots Q (F0 m (pc + 1) ls (.int (xi σ 241 (ix i)) :: rest))) : W p l e R s m args below meth c H locs cells slots Q (F0 m pc ls (.int i :: .ref (x + 13) :: rest)) := va_iald (D := D) (cl := vwCl) (tys := tyL a) C.1.1 C.1.2.1 C.2 (va_at_single (xa_names hX.1)) 0 0 rfl rfl hin hdg k
theorem xald_11 (C : Cx D a p s m args c cc nL own) (hX : HX D a x e0 A σ s.heap H locs) {i : Int32} (hin : vp_in i 10) (hdg : decode cc pc = .ok (.aaload, 1)) (k : W p l e R s m args below meth c H locs cells slots Q (F0 m (pc + 1) ls (rv (xr σ 242 (ix i)) :: rest))) : W p l e R s m args below meth c H locs cells slots Q (F0 m pc ls (.int i :: .ref (x + 11) :: rest)) := va_aldq (D := D) (cl := vwCl) (tys := tyL a) (C := "FireNet$Rule") C.1.1 C.1.2.1 C.2 (va_at_single (xa_rules hX.1)) 0 3 rfl rfl hin hdg (by show W p l e R s m args below meth c H locs cells slots Q (F0 m (pc + 1) ls (va_rf (rq (xr σ 242 (ix i))) :: rest)); rw [rv_rq]; exact k)
theorem xast_12 (C : Cx D a p s m args c cc nL own) (hX : HX D a x e0 A σ s.heap H locs) {i v : Int32} (hin : vp_in i 4) (hdg : decode cc pc = .ok (.iastore, 1)) (k : ∀ H locs, HX D a x e0 A (xI σ 240 (ix i) v) s.heap H locs → W p l e R s m args below meth c H locs cells slots Q (F0 m (pc + 1) ls rest)) : W p l e R s m args below meth c H locs cells slots Q (F0 m pc ls (.int v :: .int i :: .ref (x + 12) :: rest)) :=
  wx_iast (D := D) (cl := vwCl) (tys := tyL a) C.1.1 C.1.2.1 C.2 0 (xa_laws hX.1) rfl hin hdg fun H1 locs1 e1 _ e3 e4 => k H1 locs1 (hX.set xs_laws e1 e3 e4)
theorem xast_13 (C : Cx D a p s m args c cc nL own) (hX : HX D a x e0 A σ s.heap H locs) {i v : Int32} (hin : vp_in i 10) (hdg : decode cc pc = .ok (.iastore, 1)) (k : ∀ H locs, HX D a x e0 A (xI σ 241 (ix i) v) s.heap H locs → W p l e R s m args below meth c H locs cells slots Q (F0 m (pc + 1) ls rest)) : W p l e R s m args below meth c H locs cells slots Q (F0 m pc ls (.int v :: .int i :: .ref (x + 13) :: rest)) :=
  wx_iast (D := D) (cl := vwCl) (tys := tyL a) C.1.1 C.1.2.1 C.2 0 (xa_names hX.1) rfl hin hdg fun H1 locs1 e1 _ e3 e4 => k H1 locs1 (hX.set xs_names e1 e3 e4)
theorem k34 (hK : va_K D vwCl (tyL a) s) : a 3 ≠ a 4 := by
  intro h
  obtain ⟨-, k3, c3, g1, g2, -⟩ := hK.2 3 _ rfl
  obtain ⟨-, k4, c4, g3, g4, -⟩ := hK.2 4 _ rfl
  rw [h, g3] at g1
  cases g1
  rw [g2] at g4
  injection g4 with _ g5
  injection g5 with g6
  exact absurd g6 (by decide)
/-- an element's class is looked at -/
theorem xcast {K : Nat} {nm : String} {T : u_T} {N index : Nat} {fs : List Value} (C : Cx D a p s m args c cc nL own) (hat : va_at D vwCl (q, .inr (K, fs)) H) (hc : vwCl[K]? = some (nm, T, N)) (hl : Cond.classLink own index nm ∈ TB) (hdg : decode cc pc = .ok (.checkcast index, 3)) (k : W p l e R s m args below meth c H locs cells slots Q (F0 m (pc + 3) ls (.ref q :: rest))) : W p l e R s m args below meth c H locs cells slots Q (F0 m pc ls (.ref q :: rest)) :=
  va_castS C.1.1 C.1.2.1 C.1.2.2.2.1 (C.1.2.2.2.2 _ hl) (C.2.1 K _ hc).2 (va_recv (D := D) (cl := vwCl) (tys := tyL a) (q := (nm, T, N)) (ci := K) (q0 := 0) C.2 (va_at_single hat) hc rfl) hdg k
/-- a new thing -/
theorem wx_new {c0 : Code} {cl : List vw_C} {tys : List (ClassId × FieldType)} (hexec : p.tables.exec = Jvm.exec) (hb : c0.code = cc) {own C : String} {T : u_T} {N ci index : Nat} {Ts : List Cond} (hts : ∀ w ∈ Ts, w.before args s = true) (hin : ∀ w ∈ u_ws C T N, w ∈ Ts) (ty : Nat → FieldType) (hty : ∀ k, k < N → parseFieldDescriptor (T k).2.2.1 = some (ty k)) (hown : s.vm.findClass own = some m.cls) (hcl : (Cond.classLink own index C).before args s = true) (hinst : (Cond.instantiable C N).before args s = true) (hini : (Cond.initialized C).before args s = true)
    (hK : va_K D cl tys s) (hc : cl[ci]? = some (C, T, N)) {fs : List Value} (hfs : ∀ j, j < N → defaultValue (ty j) = vp_V fs j) (hcells : cells + 1 ≤ R.cells) (hslots : slots + N ≤ R.slots) (hdg : decode cc pc = .ok (.new index, 3))
    (kk : ∀ (H1 : Heap), va_at D cl (H.size, .inr (ci, fs)) H1 → H1.size = H.size + 1 → (∀ z, z < H.size → H1[z]? = H[z]?) → W p l e R s m args below meth c0 H1 locs (cells + 1) (slots + N) Q (F0 m (pc + 3) ls (.ref H.size :: rest))) : W p l e R s m args below meth c0 H locs cells slots Q (F0 m pc ls rest) := by
  have hKn := hK.1 ci _ hc
  refine W.newcK hexec hb hown hcl hinst hini rfl hdg hcells hslots hKn.2.1 rfl fun H1 kC hkC e1 z1 o1 => ?_
  exact kk H1 ⟨_, hc, (u_born ty hts hin hKn hkC e1 hty).to hfs⟩ z1 o1
theorem xnew_X10_29 {nq : Nat} (C : Cx D a p s m args c cc nL RX10) (hE : EV D a e0 A s s.heap) (hX : HX D a x e0 A σ s.heap s.heap []) (hnq : nq = s.heap.size) (h0 : 0 < s.heap.size) (hc : cells + 1 ≤ R.cells) (hs : slots + 2 ≤ R.slots) (hdg : decode cc pc = .ok (.new 29, 3)) (k : ∀ H locs, HX D a x e0 A (xNew σ 3 nq) s.heap H locs → W p l e R s m args below meth c H locs (cells + 1) (slots + 2) Q (F0 m (pc + 3) ls (.ref nq :: rest))) : W p l e R s m args below meth c s.heap [] cells slots Q (F0 m pc ls rest) := by
  subst hnq
  refine wx_new (D := D) (cl := vwCl) (tys := tyL a) (ci := 3) (C := RX2) (T := TX2) (N := 2) (fs := xF (xNew σ 3 s.heap.size) 3 s.heap.size) C.1.1 C.1.2.1 C.1.2.2.2.2 tb_X2 tyX2 tyX2_ok C.1.2.2.2.1 (C.1.2.2.2.2 _ q_84) (C.1.2.2.2.2 _ q_85) (C.1.2.2.2.2 _ q_30) C.2 rfl ?_ hc hs hdg (fun H1 e1 e2 e3 => k H1 [] (hX.new (by decide) rfl (hE.2.2.2.2.2.1 _ (Nat.le_refl _)) h0 e1 e2 e3))
  intro j hj
  have hj : j < 2 := hj
  rcases (show j = 0 ∨ j = 1 by omega) with rfl | rfl <;> simp [xF, vp_V, xi, xj, xr, xNew, rv, defaultValue, tyX2]
theorem xnew_X10_45 {nq : Nat} (C : Cx D a p s m args c cc nL RX10) (hE : EV D a e0 A s s.heap) (hX : HX D a x e0 A σ s.heap s.heap []) (hnq : nq = s.heap.size) (h0 : 0 < s.heap.size) (hc : cells + 1 ≤ R.cells) (hs : slots + 4 ≤ R.slots) (hdg : decode cc pc = .ok (.new 45, 3)) (k : ∀ H locs, HX D a x e0 A (xNew σ 4 nq) s.heap H locs → W p l e R s m args below meth c H locs (cells + 1) (slots + 4) Q (F0 m (pc + 3) ls (.ref nq :: rest))) : W p l e R s m args below meth c s.heap [] cells slots Q (F0 m pc ls rest) := by
  subst hnq
  refine wx_new (D := D) (cl := vwCl) (tys := tyL a) (ci := 4) (C := RX3) (T := TX3) (N := 4) (fs := xF (xNew σ 4 s.heap.size) 4 s.heap.size) C.1.1 C.1.2.1 C.1.2.2.2.2 tb_X3 tyX3 tyX3_ok C.1.2.2.2.1 (C.1.2.2.2.2 _ q_99) (C.1.2.2.2.2 _ q_100) (C.1.2.2.2.2 _ q_31) C.2 rfl ?_ hc hs hdg (fun H1 e1 e2 e3 => k H1 [] (hX.new (by decide) rfl (hE.2.2.2.2.2.1 _ (Nat.le_refl _)) h0 e1 e2 e3))
  intro j hj
  have hj : j < 4 := hj
  rcases (show j = 0 ∨ j = 1 ∨ j = 2 ∨ j = 3 by omega) with rfl | rfl | rfl | rfl <;> simp [xF, vp_V, xi, xj, xr, xNew, rv, defaultValue, tyX3]
theorem xnew_X10_68 {nq : Nat} (C : Cx D a p s m args c cc nL RX10) (hE : EV D a e0 A s s.heap) (hX : HX D a x e0 A σ s.heap s.heap []) (hnq : nq = s.heap.size) (h0 : 0 < s.heap.size) (hc : cells + 1 ≤ R.cells) (hs : slots + 13 ≤ R.slots) (hdg : decode cc pc = .ok (.new 68, 3)) (k : ∀ H locs, HX D a x e0 A (xNew σ 5 nq) s.heap H locs → W p l e R s m args below meth c H locs (cells + 1) (slots + 13) Q (F0 m (pc + 3) ls (.ref nq :: rest))) : W p l e R s m args below meth c s.heap [] cells slots Q (F0 m pc ls rest) := by
  subst hnq
  refine wx_new (D := D) (cl := vwCl) (tys := tyL a) (ci := 5) (C := RX4) (T := TX4) (N := 13) (fs := xF (xNew σ 5 s.heap.size) 5 s.heap.size) C.1.1 C.1.2.1 C.1.2.2.2.2 tb_X4 tyX4 tyX4_ok C.1.2.2.2.1 (C.1.2.2.2.2 _ q_120) (C.1.2.2.2.2 _ q_121) (C.1.2.2.2.2 _ q_32) C.2 rfl ?_ hc hs hdg (fun H1 e1 e2 e3 => k H1 [] (hX.new (by decide) rfl (hE.2.2.2.2.2.1 _ (Nat.le_refl _)) h0 e1 e2 e3))
  intro j hj
  have hj : j < 13 := hj
  rcases (show j = 0 ∨ j = 1 ∨ j = 2 ∨ j = 3 ∨ j = 4 ∨ j = 5 ∨ j = 6 ∨ j = 7 ∨ j = 8 ∨ j = 9 ∨ j = 10 ∨ j = 11 ∨ j = 12 by omega) with rfl | rfl | rfl | rfl | rfl | rfl | rfl | rfl | rfl | rfl | rfl | rfl | rfl <;> simp [xF, vp_V, xi, xj, xr, xNew, rv, defaultValue, tyX4]
theorem xnew_X10_96 {nq : Nat} (C : Cx D a p s m args c cc nL RX10) (hE : EV D a e0 A s s.heap) (hX : HX D a x e0 A σ s.heap s.heap []) (hnq : nq = s.heap.size) (h0 : 0 < s.heap.size) (hc : cells + 1 ≤ R.cells) (hs : slots + 3 ≤ R.slots) (hdg : decode cc pc = .ok (.new 96, 3)) (k : ∀ H locs, HX D a x e0 A (xNew σ 1 nq) s.heap H locs → W p l e R s m args below meth c H locs (cells + 1) (slots + 3) Q (F0 m (pc + 3) ls (.ref nq :: rest))) : W p l e R s m args below meth c s.heap [] cells slots Q (F0 m pc ls rest) := by
  subst hnq
  refine wx_new (D := D) (cl := vwCl) (tys := tyL a) (ci := 1) (C := RX0) (T := TX0) (N := 3) (fs := xF (xNew σ 1 s.heap.size) 1 s.heap.size) C.1.1 C.1.2.1 C.1.2.2.2.2 tb_X0 tyX0 tyX0_ok C.1.2.2.2.1 (C.1.2.2.2.2 _ q_383) (C.1.2.2.2.2 _ q_384) (C.1.2.2.2.2 _ q_42) C.2 rfl ?_ hc hs hdg (fun H1 e1 e2 e3 => k H1 [] (hX.new (by decide) rfl (hE.2.2.2.2.2.1 _ (Nat.le_refl _)) h0 e1 e2 e3))
  intro j hj
  have hj : j < 3 := hj
  rcases (show j = 0 ∨ j = 1 ∨ j = 2 by omega) with rfl | rfl | rfl <;> simp [xF, vp_V, xi, xj, xr, xNew, rv, defaultValue, tyX0]
theorem xnew_X10_140 {nq : Nat} (C : Cx D a p s m args c cc nL RX10) (hE : EV D a e0 A s s.heap) (hX : HX D a x e0 A σ s.heap s.heap []) (hnq : nq = s.heap.size) (h0 : 0 < s.heap.size) (hc : cells + 1 ≤ R.cells) (hs : slots + 12 ≤ R.slots) (hdg : decode cc pc = .ok (.new 140, 3)) (k : ∀ H locs, HX D a x e0 A (xNew σ 7 nq) s.heap H locs → W p l e R s m args below meth c H locs (cells + 1) (slots + 12) Q (F0 m (pc + 3) ls (.ref nq :: rest))) : W p l e R s m args below meth c s.heap [] cells slots Q (F0 m pc ls rest) := by
  subst hnq
  refine wx_new (D := D) (cl := vwCl) (tys := tyL a) (ci := 7) (C := RX6) (T := TX6) (N := 12) (fs := xF (xNew σ 7 s.heap.size) 7 s.heap.size) C.1.1 C.1.2.1 C.1.2.2.2.2 tb_X6 tyX6 tyX6_ok C.1.2.2.2.1 (C.1.2.2.2.2 _ q_458) (C.1.2.2.2.2 _ q_559) (C.1.2.2.2.2 _ q_46) C.2 rfl ?_ hc hs hdg (fun H1 e1 e2 e3 => k H1 [] (hX.new (by decide) rfl (hE.2.2.2.2.2.1 _ (Nat.le_refl _)) h0 e1 e2 e3))
  intro j hj
  have hj : j < 12 := hj
  rcases (show j = 0 ∨ j = 1 ∨ j = 2 ∨ j = 3 ∨ j = 4 ∨ j = 5 ∨ j = 6 ∨ j = 7 ∨ j = 8 ∨ j = 9 ∨ j = 10 ∨ j = 11 by omega) with rfl | rfl | rfl | rfl | rfl | rfl | rfl | rfl | rfl | rfl | rfl | rfl <;> simp [xF, vp_V, xi, xj, xr, xNew, rv, defaultValue, tyX6]
theorem xnew_X10_221 {nq : Nat} (C : Cx D a p s m args c cc nL RX10) (hE : EV D a e0 A s s.heap) (hX : HX D a x e0 A σ s.heap s.heap []) (hnq : nq = s.heap.size) (h0 : 0 < s.heap.size) (hc : cells + 1 ≤ R.cells) (hs : slots + 3 ≤ R.slots) (hdg : decode cc pc = .ok (.new 221, 3)) (k : ∀ H locs, HX D a x e0 A (xNew σ 10 nq) s.heap H locs → W p l e R s m args below meth c H locs (cells + 1) (slots + 3) Q (F0 m (pc + 3) ls (.ref nq :: rest))) : W p l e R s m args below meth c s.heap [] cells slots Q (F0 m pc ls rest) := by
  subst hnq
  refine wx_new (D := D) (cl := vwCl) (tys := tyL a) (ci := 10) (C := RX9) (T := TX9) (N := 3) (fs := xF (xNew σ 10 s.heap.size) 10 s.heap.size) C.1.1 C.1.2.1 C.1.2.2.2.2 tb_X9 tyX9 tyX9_ok C.1.2.2.2.1 (C.1.2.2.2.2 _ q_631) (C.1.2.2.2.2 _ q_633) (C.1.2.2.2.2 _ q_47) C.2 rfl ?_ hc hs hdg (fun H1 e1 e2 e3 => k H1 [] (hX.new (by decide) rfl (hE.2.2.2.2.2.1 _ (Nat.le_refl _)) h0 e1 e2 e3))
  intro j hj
  have hj : j < 3 := hj
  rcases (show j = 0 ∨ j = 1 ∨ j = 2 by omega) with rfl | rfl | rfl <;> simp [xF, vp_V, xi, xj, xr, xNew, rv, defaultValue, tyX9]
theorem xnew_X10_233 {nq : Nat} (C : Cx D a p s m args c cc nL RX10) (hE : EV D a e0 A s s.heap) (hX : HX D a x e0 A σ s.heap s.heap []) (hnq : nq = s.heap.size) (h0 : 0 < s.heap.size) (hc : cells + 1 ≤ R.cells) (hs : slots + 5 ≤ R.slots) (hdg : decode cc pc = .ok (.new 233, 3)) (k : ∀ H locs, HX D a x e0 A (xNew σ 9 nq) s.heap H locs → W p l e R s m args below meth c H locs (cells + 1) (slots + 5) Q (F0 m (pc + 3) ls (.ref nq :: rest))) : W p l e R s m args below meth c s.heap [] cells slots Q (F0 m pc ls rest) := by
  subst hnq
  refine wx_new (D := D) (cl := vwCl) (tys := tyL a) (ci := 9) (C := RX8) (T := TX8) (N := 5) (fs := xF (xNew σ 9 s.heap.size) 9 s.heap.size) C.1.1 C.1.2.1 C.1.2.2.2.2 tb_X8 tyX8 tyX8_ok C.1.2.2.2.1 (C.1.2.2.2.2 _ q_663) (C.1.2.2.2.2 _ q_664) (C.1.2.2.2.2 _ q_48) C.2 rfl ?_ hc hs hdg (fun H1 e1 e2 e3 => k H1 [] (hX.new (by decide) rfl (hE.2.2.2.2.2.1 _ (Nat.le_refl _)) h0 e1 e2 e3))
  intro j hj
  have hj : j < 5 := hj
  rcases (show j = 0 ∨ j = 1 ∨ j = 2 ∨ j = 3 ∨ j = 4 by omega) with rfl | rfl | rfl | rfl | rfl <;> simp [xF, vp_V, xi, xj, xr, xNew, rv, defaultValue, tyX8]
theorem xnew_X10_257 {nq : Nat} (C : Cx D a p s m args c cc nL RX10) (hE : EV D a e0 A s s.heap) (hX : HX D a x e0 A σ s.heap s.heap []) (hnq : nq = s.heap.size) (h0 : 0 < s.heap.size) (hc : cells + 1 ≤ R.cells) (hs : slots + 16 ≤ R.slots) (hdg : decode cc pc = .ok (.new 257, 3)) (k : ∀ H locs, HX D a x e0 A (xNew σ 8 nq) s.heap H locs → W p l e R s m args below meth c H locs (cells + 1) (slots + 16) Q (F0 m (pc + 3) ls (.ref nq :: rest))) : W p l e R s m args below meth c s.heap [] cells slots Q (F0 m pc ls rest) := by
  subst hnq
  refine wx_new (D := D) (cl := vwCl) (tys := tyL a) (ci := 8) (C := RX7) (T := TX7) (N := 16) (fs := xF (xNew σ 8 s.heap.size) 8 s.heap.size) C.1.1 C.1.2.1 C.1.2.2.2.2 tb_X7 tyX7 tyX7_ok C.1.2.2.2.1 (C.1.2.2.2.2 _ q_761) (C.1.2.2.2.2 _ q_762) (C.1.2.2.2.2 _ q_49) C.2 rfl ?_ hc hs hdg (fun H1 e1 e2 e3 => k H1 [] (hX.new (by decide) rfl (hE.2.2.2.2.2.1 _ (Nat.le_refl _)) h0 e1 e2 e3))
  intro j hj
  have hj : j < 16 := hj
  rcases (show j = 0 ∨ j = 1 ∨ j = 2 ∨ j = 3 ∨ j = 4 ∨ j = 5 ∨ j = 6 ∨ j = 7 ∨ j = 8 ∨ j = 9 ∨ j = 10 ∨ j = 11 ∨ j = 12 ∨ j = 13 ∨ j = 14 ∨ j = 15 by omega) with rfl | rfl | rfl | rfl | rfl | rfl | rfl | rfl | rfl | rfl | rfl | rfl | rfl | rfl | rfl | rfl <;> simp [xF, vp_V, xi, xj, xr, xNew, rv, defaultValue, tyX7]
/-! lists -/
theorem xlist {j : Nat} (h : XP D a x e0 A σ H) (hj : j < 7) : ∃ mc ar, va_at D vwCl (alE (xl x j) mc ar (nI (xn σ j))) H ∧ (xn σ j = 0 ∨ ∃ cap g, va_at D vwCl (arE a ar cap g) H ∧ xn σ j ≤ cap ∧ cap ≤ 200 ∧ ∀ i, i < xn σ j → g i = some (xe σ j i)) := by
  obtain ⟨Mp, ow, hM, -, -, -, -, h5, -⟩ := h
  obtain ⟨mc, ar, r1, r2⟩ := h5 j hj
  refine ⟨mc, ar, (hM _ _ r1).1, ?_⟩
  rcases r2 with ⟨-, r⟩ | ⟨cap, g, g1, g2, g3, g4, g5, g6⟩
  · exact Or.inl r
  · exact Or.inr ⟨cap, g, (hM _ _ g1).1, g4, g5, g6⟩
abbrev fwOK (s : State) : Prop := va_Fw RJx4a65c yL_size yJx4a65c_size_8abf5 s ∧ va_Fw RJx4a65c yL_get yJx4a65c_get_915e3 s ∧ va_Fw RJx4a65c yL_add yJx4a65c_add_9ea2d s
theorem xl_size {j fr lo : Nat} (C : Cx D a p s m args c cc nL RX10) (hE : EV D a e0 A s s.heap) (hX : HX D a x e0 A σ s.heap H locs) (hj : j < 7) (hRf : R.frames = fr) (hRl : R.locals = lo) (h1 : 0 + 1 ≤ fr) (h2 : 8 + (1 + 11) + 0 ≤ lo) (hsz : ls.size = nL) (hW : (rest.map fun v => v.category).sum ≤ 8) (hc : cells ≤ R.cells) (hs : slots ≤ R.slots) (hdg : decode cc pc = .ok (.invokeinterface 85 1, 5))
    (kk : W p l e R s m args below meth c H locs cells slots Q (F0 m (pc + 5) ls (.int (nI (xn σ j)) :: rest))) : W p l e R s m args below meth c H locs cells slots Q (F0 m pc ls (.ref (xl x j) :: rest)) := by
  obtain ⟨mc, ar, hat, -⟩ := xlist hX.1 hj
  have hcw := va_cwF (R := R) (index := 85) (own := RX10) (C := RJx4a65c) (x := yL_size) (y := yJx4a65c_size_8abf5) (bytes := cJx4a65c_size_8abf5) (maxL := 1) (ret := some .int) (mc := 0) (ms := 0) (rm := { frames := 0, cells := 0, slots := 0, locals := 0 }) 0 C.1.2.2.2.2 (tb_cons q_359 (tb_cons q_362 (tb_cons q_364 (tb_cons q_29 (tb_cons q_366 tb_self))))) rfl rfl rfl hE.2.2.2.2.2.2.1.1 (by decide +kernel) ⟨by rw [hRf]; exact h1, by rw [hRl]; exact h2⟩
  have hrun := va_runF (e := e) (below := below) (meth := meth) (H := H) (locs := locs) (cells := cells) (slots := slots) (g := F0 m pc ls (.ref (xl x j) :: rest)) (As := []) (rest := rest) (b := xl x j) (count := 1) (C.2.1 0 _ rfl).2 C.1 (j_size l D a (xl x j) mc ar (nI (xn σ j))) hcw ⟨fun z U g mk q => ⟨q.1, bk_blind g mk z q.2.1, q.2.2⟩, jl_recv C hat, fun U hU hW => ⟨rfl, va_K.moved hW.alike C.2, by rw [hU]; exact hat⟩⟩ rfl rfl hsz rfl (lv_room hW) hdg ⟨hc, hs⟩
  intro T hT X
  obtain ⟨v', st₀, t, T', L, h0, X', hL, e1, e2, ⟨hv, hh⟩, stp⟩ := hrun T hT X
  cases hv
  obtain ⟨t2, a1, b1⟩ := kk T' (by rw [e1, hh, h0]) (Stand.forget X' (fun q h => (hL q h).elim))
  exact ⟨t2, stp t2 a1, b1⟩
theorem vp_in_ok {i : Int32} {n : Nat} (h : vp_in i n) (hn : n < 2 ^ 31) : ¬ i < 0 ∧ i < nI n ∧ ix i < n := by
  obtain ⟨j, hj, rfl⟩ := vp_in_of h hn
  exact ⟨nI_pos (by omega), nI_lt hj hn, by show (nI j).toNatClampNeg < n; rw [nI_clamp (by omega)]; exact hj⟩
theorem xl_get {j fr lo : Nat} {i : Int32} (C : Cx D a p s m args c cc nL RX10) (hE : EV D a e0 A s s.heap) (hX : HX D a x e0 A σ s.heap H locs) (hj : j < 7) (hi : vp_in i (xn σ j)) (hRf : R.frames = fr) (hRl : R.locals = lo) (h1 : 2 + 1 ≤ fr) (h2 : 8 + (2 + 11) + 43 ≤ lo) (hsz : ls.size = nL) (hW : (rest.map fun v => v.category).sum ≤ 8) (hc : cells ≤ R.cells) (hs : slots ≤ R.slots) (hdg : decode cc pc = .ok (.invokeinterface 184 2, 5))
    (kk : W p l e R s m args below meth c H locs cells slots Q (F0 m (pc + 5) ls (.ref (xe σ j (ix i)) :: rest))) : W p l e R s m args below meth c H locs cells slots Q (F0 m pc ls (.int i :: .ref (xl x j) :: rest)) := by
  obtain ⟨mc, ar, hat, hor⟩ := xlist hX.1 hj
  rcases hor with hz | ⟨cap, g, har, hc1, hc2, hg⟩
  · exact absurd hi (by rw [hz]; exact fun h => h (Or.inr (Nat.zero_le _)))
  obtain ⟨i1, i2, i3⟩ := vp_in_ok hi (by omega)
  have hcw := va_cwF (R := R) (index := 184) (own := RX10) (C := RJx4a65c) (x := yL_get) (y := yJx4a65c_get_915e3) (bytes := cJx4a65c_get_915e3) (maxL := 2) (ret := some (.object "java/lang/Object")) (mc := 0) (ms := 0) (rm := { frames := 2, cells := 0, slots := 0, locals := 43 }) 1 C.1.2.2.2.2 (tb_cons q_428 (tb_cons q_431 (tb_cons q_433 (tb_cons q_29 (tb_cons q_435 tb_self))))) rfl rfl rfl hE.2.2.2.2.2.2.1.2.1 (by decide +kernel) ⟨by rw [hRf]; exact h1, by rw [hRl]; exact h2⟩
  have hrun := va_runF (e := e) (below := below) (meth := meth) (H := H) (locs := locs) (cells := cells) (slots := slots) (g := F0 m pc ls (.int i :: .ref (xl x j) :: rest)) (As := [.int i]) (rest := rest) (b := xl x j) (count := 2) (C.2.1 0 _ rfl).2 C.1 (j_get l D a (xl x j) mc ar (nI (xn σ j)) cap g i (xe σ j (ix i)) i1 i2 (fun z => z.elim i1 (fun z => by have : ix i < xn σ j := i3; unfold ix at this; omega)) (hg _ i3)) hcw ⟨fun z U g mk q => ⟨q.1, bk_blind g mk z q.2.1, q.2.2⟩, jl_recv C hat, fun U hU hW => ⟨rfl, va_K.moved hW.alike C.2, by rw [hU]; exact hat, by rw [hU]; exact har⟩⟩ rfl rfl hsz rfl (lv_room hW) hdg ⟨hc, hs⟩
  intro T hT X
  obtain ⟨v', st₀, t, T', L, h0, X', hL, e1, e2, ⟨hv, hh⟩, stp⟩ := hrun T hT X
  cases hv
  obtain ⟨t2, a1, b1⟩ := kk T' (by rw [e1, hh, h0]) (Stand.forget X' (fun q h => (hL q h).elim))
  exact ⟨t2, stp t2 a1, b1⟩
end XR2

