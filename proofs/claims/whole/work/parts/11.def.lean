/-! the tables hold: by program, each method decided -/
def mOkL (own : String) (bytes : ByteArray) (code : List mE) : Bool := (List.zipIdx code).all fun q => mOkE own bytes code q.2 q.1
def yPrim (a : Nat) : MethodName := match a with
  | 1 => Lib.Math.min.name
  | 2 => Lib.Math.max.name
  | 3 => arraycopyName
  | 4 => ⟨"java/lang/String", "length", "()I"⟩
  | _ => ⟨"java/lang/String", "charAt", "(I)C"⟩
def mOkC (own : String) (en : mE) : Bool := match en with
  | (ins, _, _, a, b, w) => match ins with
    | .invokevirtual idx => bif Nat.blt a 10 then (Nat.ble 4 a && Nat.ble a 5 && decide (lw_tbl[w]? = some (.methodLink own idx (yPrim a)))) else (decide ((mT a).1 ≠ yL_law_) && Nat.blt a 373 && Nat.blt (mKi a) 10 && Nat.beq b 0 && decide (mRaw a = []) && decide (lw_tbl[w]? = some (.methodLink own idx (mT a).1)))
    | .invokestatic idx => bif Nat.blt a 10 then (Nat.ble 1 a && Nat.ble a 3 && decide (lw_tbl[w]? = some (.methodLink own idx (yPrim a)))) else (decide ((mT a).1 ≠ yL_law_) && Nat.blt a 373 && Nat.beq (mKi a) 99 && (bif Nat.beq b 0 then decide (lw_tbl[w]? = some (.methodLink own idx (mT a).1)) else (Nat.beq b 1 && decide (lw_tbl[w]? = some (.methodLinkNest own idx (mT a).1 "WakeTower")) && decide (mRaw a = []))))
    | _ => true
/-- of the exceptions: their names -/
def mEx (E : Nat) : String := match E with
  | 0 => "java/lang/IllegalArgumentException"
  | 1 => "java/lang/UnsupportedOperationException"
  | 2 => "java/lang/IndexOutOfBoundsException"
  | 3 => "java/util/NoSuchElementException"
  | _ => "java/lang/IllegalStateException"
/-- of the exceptions: the entry of the class, the entry of its constructor, in WakeTower's pool -/
def mEk (E : Nat) : Nat := match E with | 0 => 96 | 1 => 106 | 2 => 372 | 3 => 178 | _ => 381
def mEc (E : Nat) : Nat := match E with | 0 => 100 | 1 => 110 | 2 => 376 | 3 => 182 | _ => 385
def mNwS (code : List mE) (i pc a : Nat) : Bool := match code[i + 1]?, code[i + 2]?, code[i + 3]?, code[i + 4]? with
  | some (.dup, p1, _, _, _, _), some (.ldc _, p2, _, a2, _, _), some (.invokespecial ic, p3, _, _, _, _), some (.athrow, p4, _, _, _, _) => Nat.beq p1 (pc + 3) && Nat.beq p2 (pc + 4) && Nat.beq p3 (pc + 6) && Nat.beq p4 (pc + 9) && Nat.beq ic (mEc a) && Nat.beq a2 1
  | _, _, _, _ => false
def mNwW (code : List mE) (i pc a : Nat) : Bool := match code[i + 1]?, code[i + 2]?, code[i + 3]?, code[i + 4]? with
  | some (.dup, p1, _, _, _, _), some (.ldc_w _, p2, _, a2, _, _), some (.invokespecial ic, p3, _, _, _, _), some (.athrow, p4, _, _, _, _) => Nat.beq p1 (pc + 3) && Nat.beq p2 (pc + 4) && Nat.beq p3 (pc + 7) && Nat.beq p4 (pc + 10) && Nat.beq ic (mEc a) && Nat.beq a2 1
  | _, _, _, _ => false
/-- a throw stands where the table says that one stands -/
def mNw (own : String) (code : List mE) (i : Nat) (en : mE) : Bool := match en with
  | (.new idx, pc, _, a, _, _) => bif Nat.blt a 5 then decide (own = "WakeTower") && Nat.beq idx (mEk a) && (mNwS code i pc a || mNwW code i pc a) else true
  | _ => true
/-- what a method catches, against the table of its file -/
def mHk (own : String) (code : List mE) : List (Nat × Nat × Nat × Nat) → List (Nat × Nat × Nat × Nat) → Bool
  | [], [] => true
  | (f, t, h, E) :: hs, (st, en, hp, ct) :: rs => Nat.blt E 5 && decide (ct ≠ 0) && decide (Cond.classLink own ct (mEx E) ∈ lw_tbl) && Nat.beq (mPc code h) hp && (List.zipIdx code).all (fun q => (Nat.ble f q.2 && Nat.blt q.2 t) == (decide (st ≤ q.1.2.1) && decide (q.1.2.1 < en))) && mHk own code hs rs
  | _, _ => false
def mQ1 (m : mY) : Prop := mOkL m.1.cls m.2.1 m.2.2.2.2.2.2 = true ∧ m.2.2.2.2.2.2.all (mOkC m.1.cls) = true ∧ (List.zipIdx m.2.2.2.2.2.2).all (fun q => mNw m.1.cls m.2.2.2.2.2.2 q.2 q.1) = true ∧ mPc m.2.2.2.2.2.2 0 = 0
def mQ2 (m : mY) : Prop := m.1 = yL_law_ ∨ ((Cond.initialized m.1.cls ∈ mGw) ∧ plainFor m.1 = true ∧ (plainName m.1.cls = true ∨ m.1.cls = "java/lang/Math") ∧ (m.1.cls ≠ "java/lang/invoke/MethodHandle" ∧ m.1.cls ≠ "java/lang/invoke/VarHandle") ∧ m.2.2.1 ≤ 12 ∧
  ((m.2.2.2.2.1 = 99 ∧ Cond.static m.1 ∈ mGw ∧ (parseMethodDescriptor m.1.desc).map (fun d => d.parameters.length) = some m.2.2.2.2.2.1) ∨
   (m.2.2.2.2.1 < 10 ∧ Cond.instanceMethod m.1 ∈ mGw ∧ Cond.selects m.1.cls m.1 m.1 ∈ mGw ∧ (vwCl.getD m.2.2.2.2.1 ("", fun _ => ("", "", "", false), 0)).1 = m.1.cls ∧ (parseMethodDescriptor m.1.desc).map (fun d => d.parameters.length + 1) = some m.2.2.2.2.2.1)))
/-- the word of a method's code; what it catches, as the tables have it -/
def mCw (m : mY) (hh : List (Nat × Nat × Nat × Nat)) : Cond := match hh with
  | [] => .code m.1 m.2.1 m.2.2.1 m.2.2.2.1
  | _ :: _ => .codeWith m.1 m.2.1 m.2.2.1 m.2.2.2.1 hh
def mQ3 (y : Nat) : Prop := (y = 372 ∧ (mT y).1 = yL_law_) ∨ (mCw (mT y) (mRaw y) ∈ mGw ∧ mHk (mT y).1.cls (mT y).2.2.2.2.2.2 (mHd y) (mRaw y) = true)
theorem m_cond {b : Bool} {P : mY → Prop} {x z : mY} (h1 : P x) (h2 : P z) : P (bif b then x else z) := by cases b <;> assumption

