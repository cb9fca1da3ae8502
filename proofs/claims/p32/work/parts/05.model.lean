/-! ===== memories: a function of a field's number and a place ===== -/
def up2 {α : Type} (f : Nat → Nat → α) (k i : Nat) (v : α) : Nat → Nat → α := fun a => if a = k then (fun b => if b = i then v else f a b) else f a
abbrev MS : Type := (Nat → Nat → Int32) × (Nat → Nat → Int64)
def mi (μ : MS) (k i : Nat) : Int32 := μ.1 k i
def ml (μ : MS) (k i : Nat) : Int64 := μ.2 k i
def mI (μ : MS) (k i : Nat) (v : Int32) : MS := (up2 μ.1 k i v, μ.2)
def mL (μ : MS) (k i : Nat) (v : Int64) : MS := (μ.1, up2 μ.2 k i v)
abbrev ix (i : Int32) : Nat := i.toNatClampNeg
def bz (x : Int32) : Int32 := vp_nar .boolean x
/-- 0 or 1 -/
def zb (x : Int32) : Prop := x = 0 ∨ x = 1
theorem zb_nar {x : Int32} (h : zb x) : narrow .boolean (.int x) = .int x := by rcases h with rfl | rfl <;> rfl
def tyL (a : Nat → ClassId) : List (ClassId × FieldType) := [(a 0, .int), (a 1, .long), (a 2, .int), (a 3, .object "FireNet$Rule"), (a 4, .object "java/lang/Object")]
/-- what holds all along a method's body: the machine, the method's code, the tables' words, the classes -/
def Cx (D : va_G) (a : Nat → ClassId) (p : Program) (s : State) (m : MethodId) (args : Array Value) (c : Code) (cc : ByteArray) (nL : Nat) (own : String) : Prop := CallFix p m c cc nL s args TB own ∧ va_K D vwCl (tyL a) s
/-! loops: a step that says whether it goes on; what a loop comes to; what it asks -/
def itr {α : Type} (f : α → Bool × α) : Nat → α → α
  | 0, v => v
  | n + 1, v => if (f v).1 = true then itr f n (f v).2 else (f v).2
def ito {α : Type} (f : α → Bool × α) (o : α → Prop) : Nat → α → Prop
  | 0, _ => False
  | n + 1, v => o v ∧ ((f v).1 = true → ito f o n (f v).2)
def FU : Nat := 100000
theorem itr_W {α : Type} {f : α → Bool × α} {o : α → Prop} (P X : α → Prop) (hs : ∀ v, o v → (∀ v', f v = (true, v') → P v') → (∀ v', f v = (false, v') → X v') → P v) : ∀ (n : Nat) (v : α), ito f o n v → X (itr f n v) → P v := by
  intro n
  induction n with
  | zero => intro v h; exact h.elim
  | succ n ih =>
    intro v ho hX
    refine hs v ho.1 (fun v' e => ?_) (fun v' e => ?_)
    · have e1 : (f v).1 = true := by rw [e]
      have h2 := ho.2 e1
      rw [itr, if_pos e1] at hX
      rw [e] at h2 hX
      exact ih v' h2 hX
    · have e1 : ¬ (f v).1 = true := by rw [e]; exact Bool.false_ne_true
      rw [itr, if_neg e1, e] at hX
      exact hX
theorem ok_pos {c : Prop} {A B : Prop} {i : Decidable c} (h : @ite Prop c i A B) (hc : c) : A := by rwa [if_pos hc] at h
theorem ok_neg {c : Prop} {A B : Prop} {i : Decidable c} (h : @ite Prop c i A B) (hc : ¬ c) : B := by rwa [if_neg hc] at h

section MRULES
variable {p : Program} {l : Launch} {e : Env} {R : Room} {s : State} {m : MethodId} {args : Array Value} {below : List Frame} {meth : Method} {c : Code} {H : Heap} {locs : List Loc} {cells slots : Nat} {Q : State → Prop} {D : va_G} {a : Nat → ClassId} {mo : Nat} {μ : MS} {cc : ByteArray} {nL : Nat} {pc : Nat} {ls : Array Slot} {rest : List Value}
end MRULES

