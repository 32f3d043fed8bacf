/-! the tables hold: by program, each method decided -/
def mOkL (own : String) (bytes : ByteArray) (code : List mE) : Bool := (List.zipIdx code).all fun q => mOkE own bytes code q.2 q.1
def yPrim (a : Nat) : MethodName := match a with
  | 1 => Lib.Math.min.name
  | 2 => Lib.Math.max.name
  | 3 => arraycopyName
  | 4 => ⟨"java/lang/String", "length", "()I"⟩
  | _ => ⟨"java/lang/String", "charAt", "(I)C"⟩
def mOkC (own : String) (en : mE) : Bool := match en with
  | (ins, _, _, a, b, w) => match ins with
    | .invokevirtual idx => bif Nat.blt a 10 then (Nat.ble 4 a && Nat.ble a 5 && decide (lw_tbl[w]? = some (.methodLink own idx (yPrim a)))) else (decide ((mT a).1 ≠ yL_law_) && Nat.blt (mKi a) 10 && Nat.beq b 0 && decide (lw_tbl[w]? = some (.methodLink own idx (mT a).1)))
    | .invokestatic idx => bif Nat.blt a 10 then (Nat.ble 1 a && Nat.ble a 3 && decide (lw_tbl[w]? = some (.methodLink own idx (yPrim a)))) else (decide ((mT a).1 ≠ yL_law_) && Nat.beq (mKi a) 99 && (bif Nat.beq b 0 then decide (lw_tbl[w]? = some (.methodLink own idx (mT a).1)) else (Nat.beq b 1 && decide (lw_tbl[w]? = some (.methodLinkNest own idx (mT a).1 "WakeTower")) && decide (mHd a = []))))
    | _ => true
def mQ1 (m : mY) : Prop := mOkL m.1.cls m.2.1 m.2.2.2.2.2.2 = true ∧ m.2.2.2.2.2.2.all (mOkC m.1.cls) = true
def mQ2 (m : mY) : Prop := m.1 = yL_law_ ∨ ((Cond.initialized m.1.cls ∈ mGw) ∧ plainFor m.1 = true ∧ (plainName m.1.cls = true ∨ m.1.cls = "java/lang/Math") ∧ (m.1.cls ≠ "java/lang/invoke/MethodHandle" ∧ m.1.cls ≠ "java/lang/invoke/VarHandle") ∧ m.2.2.1 ≤ 12 ∧
  ((m.2.2.2.2.1 = 99 ∧ Cond.static m.1 ∈ mGw ∧ (parseMethodDescriptor m.1.desc).map (fun d => d.parameters.length) = some m.2.2.2.2.2.1) ∨
   (m.2.2.2.2.1 < 10 ∧ Cond.instanceMethod m.1 ∈ mGw ∧ Cond.selects m.1.cls m.1 m.1 ∈ mGw ∧ (vwCl.getD m.2.2.2.2.1 ("", fun _ => ("", "", "", false), 0)).1 = m.1.cls ∧ (parseMethodDescriptor m.1.desc).map (fun d => d.parameters.length + 1) = some m.2.2.2.2.2.1)))
/-- the word of a method's code; what it catches, as the tables have it -/
def mQ3 (m : mY) (hh : List (Nat × Nat × Nat × Nat)) : Prop := m.1 = yL_law_ ∨ (hh = [] ∧ Cond.code m.1 m.2.1 m.2.2.1 m.2.2.2.1 ∈ mGw) ∨ (hh ≠ [] ∧ Cond.codeWith m.1 m.2.1 m.2.2.1 m.2.2.2.1 hh ∈ mGw)
theorem m_cond {b : Bool} {P : mY → Prop} {x z : mY} (h1 : P x) (h2 : P z) : P (bif b then x else z) := by cases b <;> assumption

