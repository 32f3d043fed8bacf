/-! the run of a method in the small machine -/
/-- what a method catches: from, to, where it goes on, which class -/
def mHs : List (List (Nat × Nat × Nat × Nat)) := [[(0, 6, 7, 0), (0, 6, 10, 1)], [(0, 6, 7, 0)], [(0, 8, 9, 2), (0, 8, 12, 3)], [(0, 7, 8, 0)], [(0, 9, 10, 2), (0, 9, 13, 4)], [(0, 7, 8, 2), (0, 7, 11, 4)], [(0, 8, 9, 2), (0, 8, 12, 0), (0, 8, 15, 4)], [(0, 8, 9, 2), (0, 8, 12, 4)], [(0, 7, 8, 2), (0, 7, 11, 4)], [(0, 7, 8, 2), (0, 7, 11, 4)], [(0, 7, 8, 0)], [(0, 7, 8, 2), (0, 7, 11, 4)], [(0, 7, 8, 2), (0, 7, 11, 4)], [(0, 7, 8, 2), (0, 7, 11, 4)], [(0, 8, 9, 2), (0, 8, 12, 4)], [(0, 7, 8, 0)], [(0, 6, 7, 0)], [(0, 7, 8, 2), (0, 7, 11, 4)], [(0, 7, 8, 2), (0, 7, 11, 4)], [(0, 7, 8, 2), (0, 7, 11, 4)], [(0, 8, 9, 2), (0, 8, 12, 0), (0, 8, 15, 4)], [(0, 7, 8, 2), (0, 7, 11, 4)], [(0, 8, 9, 2)], [(0, 7, 8, 2)], [(0, 7, 8, 2)], [(0, 9, 10, 0)], [(0, 7, 8, 0)], [(0, 8, 9, 2), (0, 8, 12, 4)], [(0, 8, 9, 2), (0, 8, 12, 0)], [(0, 7, 8, 2)], [(0, 8, 9, 2), (0, 8, 12, 0)], [(0, 8, 9, 0)], [(0, 8, 9, 0)], [(0, 8, 9, 2)], [(0, 8, 9, 3)]]
def mHd (y : Nat) : List (Nat × Nat × Nat × Nat) := bif Nat.blt y 337 then [] else mHs.getD (y - 337) []
def mRs : List (List (Nat × Nat × Nat × Nat)) := [[(0, 8, 11, 13), (0, 8, 14, 15)], [(0, 8, 11, 13)], [(0, 10, 13, 24), (0, 10, 17, 26)], [(0, 9, 12, 13)], [(0, 12, 15, 24), (0, 12, 19, 36)], [(0, 9, 12, 24), (0, 9, 15, 36)], [(0, 10, 13, 24), (0, 10, 17, 13), (0, 10, 21, 36)], [(0, 10, 13, 24), (0, 10, 17, 36)], [(0, 9, 12, 24), (0, 9, 15, 36)], [(0, 9, 12, 24), (0, 9, 15, 36)], [(0, 9, 12, 13)], [(0, 9, 12, 24), (0, 9, 15, 36)], [(0, 9, 12, 24), (0, 9, 15, 36)], [(0, 9, 12, 24), (0, 9, 15, 36)], [(0, 10, 13, 24), (0, 10, 17, 36)], [(0, 9, 12, 13)], [(0, 8, 11, 13)], [(0, 9, 12, 24), (0, 9, 15, 36)], [(0, 9, 12, 24), (0, 9, 15, 36)], [(0, 9, 12, 24), (0, 9, 15, 36)], [(0, 10, 13, 24), (0, 10, 17, 13), (0, 10, 21, 36)], [(0, 9, 12, 24), (0, 9, 15, 36)], [(0, 10, 13, 24)], [(0, 9, 12, 24)], [(0, 9, 12, 24)], [(0, 12, 15, 13)], [(0, 9, 12, 13)], [(0, 10, 13, 24), (0, 10, 17, 36)], [(0, 10, 13, 24), (0, 10, 17, 13)], [(0, 9, 12, 24)], [(0, 10, 13, 24), (0, 10, 17, 13)], [(0, 10, 13, 13)], [(0, 10, 13, 13)], [(0, 10, 13, 24)], [(0, 10, 13, 26)]]
/-- the same as the tables have it -/
def mRaw (y : Nat) : List (Nat × Nat × Nat × Nat) := bif Nat.blt y 337 then [] else mRs.getD (y - 337) []
def mCatch (hs : List (Nat × Nat × Nat × Nat)) (i E : Nat) : Option Nat := match hs with
  | [] => none
  | (f, t, h, c) :: r => bif (Nat.ble f i && Nat.blt i t && Nat.beq c E) then some h else mCatch r i E
def mKc (y : Nat) : List mE := (mT y).2.2.2.2.2.2
def mKl (y : Nat) : Nat := (mT y).2.2.1
def mKr (y : Nat) : Option FieldType := (mT y).2.2.2.1
def mKi (y : Nat) : Nat := (mT y).2.2.2.2.1
def mKn (y : Nat) : Nat := (mT y).2.2.2.2.2.1
def mRok (r : Option FieldType) (x : Int32) : Bool := match r with
  | some .int => true
  | some .boolean => decide (x = 0) || decide (x = 1)
  | _ => false
def mAst (e : Option mE) : Option Nat := match e with
  | some (.astore k, _) => some k
  | some (.astore_n k, _) => some k.val
  | _ => none
abbrev mR : Type := Option ((Option Int32 ⊕ Nat) × mM × Nat)
def mAdd (k : Nat) (r : mR) : mR := match r with
  | some (o, M, j) => some (o, M, k + j)
  | none => none
/-- what a call leaves on the stack -/
def mVl (v : Option Int32) : List Value := match v with
  | some x => [.int x]
  | none => []
/-- what follows a call: by what came out of it -/
def mRet (go : Nat → List (Option Value) → List Value → mM → mR) (y i b : Nat) (L : List (Option Value)) (rest : List Value) (r : mR) : mR := match r with
  | none => none
  | some (.inl v, M', k) => mAdd k (go (i + 1) L (mVl v ++ rest) M')
  | some (.inr E, M', k) => bif Nat.beq b 1 then none else (match mCatch (mHd y) i E with
    | none => some (.inr E, M', k)
    | some h => (match mAst (mKc y)[h]? with
      | none => none
      | some q => bif Nat.blt q L.length then mAdd k (go (h + 1) (L.set q none) [] M') else none))
/-- kinds of instructions: 0 a step, 1 ireturn, 2 return, 3 new (a throw), 4 a call -/
def mKd (ins : Instr) : Nat := match ins with
  | .ireturn => 1
  | .return_ => 2
  | .new _ => 3
  | .invokevirtual _ => 4
  | .invokestatic _ => 4
  | _ => 0
/-- a call of a method with a table, d frames to spare -/
def mDeep (go : Nat → Nat → Nat → List (Option Value) → List Value → mM → mR) (d y i a b : Nat) (L : List (Option Value)) (st : List Value) (M : mM) : mR := match d with
  | 0 => none
  | d' + 1 => bif Nat.ble (mKn a) st.length && Nat.ble (mKn a) (mKl a) && mRec (mKi a) (st.take (mKn a)).reverse && (st.take (mKn a)).all mC1 && mV4 (st.drop (mKn a)) then
      mRet (fun i' L' st' M' => go (d' + 1) y i' L' st' M') y i b L (st.drop (mKn a)) (go d' a 0 (mEn (st.take (mKn a)).reverse (mKl a)) [] M) else none
def mLib (go : Nat → Nat → Nat → List (Option Value) → List Value → mM → mR) (d y i a : Nat) (L : List (Option Value)) (st : List Value) (M : mM) : mR :=
  bif Nat.ble 8 d && Nat.ble (mPn a) st.length && mV4 (st.drop (mPn a)) then (match mPrim a (st.take (mPn a)).reverse M with
    | none => none
    | some (v, M') => go d y (i + 1) L (mVl v ++ st.drop (mPn a)) M') else none
def mIre (r : Option FieldType) (st : List Value) (M : mM) : mR := match st with
  | [.int x] => bif mRok r x then some (.inl (some x), M, 0) else none
  | _ => none
def mVre (r : Option FieldType) (st : List Value) (M : mM) : mR := match r, st with
  | none, [] => some (.inl none, M, 0)
  | _, _ => none
def mStp (go : Nat → Nat → Nat → List (Option Value) → List Value → mM → mR) (d y : Nat) (q : Option mS) : mR := match q with
  | none => none
  | some (i', L', st', M') => go d y i' L' st' M'
def mAct (go : Nat → Nat → Nat → List (Option Value) → List Value → mM → mR) (d y i : Nat) (L : List (Option Value)) (st : List Value) (M : mM) (en : mE) : mR := match en with
  | (ins, pc, ln, a, b, w) => match mKd ins with
    | 0 => mStp go d y (mstep (ins, pc, ln, a, b, w) i L st M)
    | 1 => mIre (mKr y) st M
    | 2 => mVre (mKr y) st M
    | 3 => bif Nat.ble 8 d && mV4 st && Nat.blt a 5 && (mHd y).isEmpty then some (.inr a, M, 1) else none
    | _ => bif Nat.blt a 10 then mLib go d y i a L st M else mDeep go d y i a b L st M
def mBody (go : Nat → Nat → Nat → List (Option Value) → List Value → mM → mR) (d y i : Nat) (L : List (Option Value)) (st : List Value) (M : mM) : mR := match (mKc y)[i]? with
  | none => none
  | some en => mAct go d y i L st M en
/-- n: fuel; d: how many frames deep it may go; y: the method; i: its instruction; locals, stack, contents -/
def mx (n : Nat) : Nat → Nat → Nat → List (Option Value) → List Value → mM → mR := match n with
  | 0 => fun _ _ _ _ _ _ => none
  | n + 1 => mBody (mx n)
