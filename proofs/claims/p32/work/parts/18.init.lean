/-! ===== the reference is born ===== -/
section GOGI
variable {l : Launch} {D : va_G} {a : Nat → ClassId} {A : Nat → Prop} {y : MethodName} {bytes : ByteArray} {maxL fr lo mc ms : Nat} {av : List Value}
theorem goGi {B : State → Prop} {P : Heap → Option Value → Heap → Prop} (hy : plainName y.cls = true) (hB : GB D a B) (hlen : (lg_sl av).length ≤ maxL)
    (body : GoG l D a y bytes maxL fr lo mc ms av A B (fun p s m args below meth c e R Q => (y.name = "<init>" → meth.name = "<init>") ∧ ∀ (pc : Nat) (ls : Array Slot) (H : Heap) (locs : List Loc), va_S A s.heap H locs → decode bytes pc = .ok (.return_, 1) → P s.heap none H → W p l e R s m args below meth c H locs mc ms Q (F0 m pc ls []))) : KG l y bytes maxL none fr lo mc ms av A B P := by
  refine Met.ofW (cc := bytes) (maxL := maxL) (ret := none) hy rfl ?_
  intro p e s m args below meth c s₁ B' hml hv
  obtain ⟨rfl, hP⟩ := hv
  have C : Cx D a p s m av.toArray c bytes maxL y.cls := ⟨⟨B'.exec, B'.bytes, hml, findClass_of_methodNamed B'.named, fun w h => atoms_spec (ws := .code y bytes maxL none :: TB) B'.pre w (List.mem_cons_of_mem _ h)⟩, hB.1 _ hP⟩
  have hl := lv_entry av (n := maxL) hlen
  have hr := B'.returns
  have hk := B'.notSynchronized
  rw [lg_entry_eq]
  refine body p e s m _ below meth c _ _ _ rfl rfl rfl rfl C hP hl ⟨fun h => (name_of_methodNamed B'.named B'.method).1.trans h, ?_⟩
  intro pc ls H locs hS hdg hQ
  exact W.vret C.1.1 C.1.2.1 hr (fun t ht _ => ⟨⟨_, rfl, by rw [ht]; exact hQ⟩, hS.F ht⟩) hS.2.2 hdg hk
end GOGI
section MINIT
variable {p : Program} {l : Launch} {e : Env} {R : Room} {s : State} {m : MethodId} {args : Array Value} {below : List Frame} {meth : Method} {c : Code} {H : Heap} {locs : List Loc} {cells slots : Nat} {Q : State → Prop} {D : va_G} {a : Nat → ClassId} {mo : Nat} {cc : ByteArray} {nL pc : Nat} {ls : Array Slot} {rest : List Value} {own : String} {fs : List Value} {i N k idx : Nat}
theorem mi_cell {t : Nat} {ty : FieldType} {cA : ClassId} (C : Cx D a p s m args c cc nL own) (ht : (tyL a)[t]? = some (a t, ty)) (hp : ∀ C, ty ≠ .object C) (h : s.vm.findClass ("[" ++ ty.toString) = some cA) : cA = a t := by
  have h1 := (C.2.2 t _ ht).2
  have h2 : s.vm.findClass ("[" ++ ty.toString) = some (a t) := by
    cases ty with
    | object C => exact absurd rfl (hp C)
    | _ => exact h1
  exact Option.some.inj (h.symm.trans h2)
end MINIT

