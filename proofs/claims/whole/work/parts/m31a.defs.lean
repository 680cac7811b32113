/-! WHAT THE TABLES SAY OF METHODS AND FIELDS -/
/-- own class, bytes, locals, answer's type, height -/
abbrev KY : Type := String × ByteArray × Nat × Option FieldType × Nat
def kFL (own : String) (idx c j : Nat) : Prop := (c < 13 ∧ j < kN c) ∧ (Cond.fieldLink own idx (kT c j).1 (kT c j).2.1 (kT c j).2.2.1 ∈ tbg ∨ ∃ host, Cond.fieldLinkNest own idx (kT c j).1 (kT c j).2.1 (kT c j).2.2.1 host ∈ tbg)
/-- what a method is, by the tables -/
def KMd (y : MethodName) (Y : KY) (np : Nat) : Prop := (Cond.code y Y.2.1 Y.2.2.1 Y.2.2.2.1 ∈ tbg ∧ Cond.initialized y.cls ∈ tbg) ∧ y.cls = Y.1 ∧ (y.cls ≠ "java/lang/invoke/MethodHandle" ∧ y.cls ≠ "java/lang/invoke/VarHandle" ∧ plainName y.cls = true) ∧ (parseMethodDescriptor y.desc).map (fun d => d.parameters.length) = some np ∧ Y.2.2.1 ≤ 45
/-- a method's link: of its own class or of a nest mate's -/
def kML (own : String) (idx : Nat) (y : MethodName) : Prop := Cond.methodLink own idx y ∈ tbg ∨ ∃ host, Cond.methodLinkNest own idx y host ∈ tbg
def kDec (cc : ByteArray) (D : List (Nat × Instr × Nat)) : Prop := ∀ (i pc : Nat) (ins : Instr) (len : Nat), D[i]? = some (pc, ins, len) → decode cc pc = .ok (ins, len)
theorem kDec_of {cc : ByteArray} {D : List (Nat × Instr × Nat)} (h : ∀ q ∈ D, decode cc q.1 = .ok (q.2.1, q.2.2)) : kDec cc D := fun i pc ins len hi => h (pc, ins, len) (List.mem_of_getElem? hi)
