/-! the small machine: things by numbers, their contents as a function of the thing and the place; one step of a method, and its run -/
abbrev mM : Type := Nat → Nat → Int32
def mst (M : mM) (o k : Nat) (v : Int32) : mM := fun q => if q = o then upd (M q) k v else M q
/-- what a thing is: 0 to 9 an object of vwCl, 10 int[], 11 byte[], 12 boolean[], 13 long[], 14 an array of towers, 15 the script; and how long -/
def mS1 : List (Nat × Nat) := [(8, 0), (6, 0), (10, 400), (2, 0), (14, 12), (5, 0), (10, 256), (10, 2048), (10, 8), (10, 793), (4, 0), (10, 256), (10, 3328), (3, 0), (10, 4), (10, 4), (12, 16), (0, 0), (10, 12), (10, 12), (10, 12), (10, 400), (10, 64), (0, 0), (10, 12), (10, 12), (10, 12), (10, 400), (10, 64), (0, 0), (10, 12), (10, 12), (10, 12), (10, 400), (10, 64)]
def mS2 : List (Nat × Nat) := [(7, 0), (10, 8), (10, 8), (10, 8), (10, 8), (10, 8), (10, 8), (10, 8), (10, 8), (1, 0), (10, 360), (10, 8)]
def mS3 : List (Nat × Nat) := [(9, 0), (10, 2122), (10, 1273), (10, 1273), (10, 424), (10, 5088), (10, 8), (10, 9), (11, 400), (10, 5), (10, 400), (10, 8), (10, 4), (12, 256), (10, 2048), (10, 3072), (13, 1), (15, 0)]
def mSh (o : Nat) : Nat × Nat := bif Nat.blt o 35 then mS1.getD o (99, 0) else bif Nat.blt o 215 then mS2.getD ((o - 35) % 12) (99, 0) else mS3.getD (o - 215) (99, 0)
/-- of the fields that are references: how far on the thing lies (0: a number is in that field) -/
def mOf : List (List Nat) := [[0, 0, 1, 2, 3, 4, 0, 5], [1, 0, 0], [1, 0, 0], [1, 2, 3, 0], [1, 2, 0], [1, 2, 3, 4, 0], [1, 0, 0, 0], [0, 0, 0, 0, 0, 0, 0, 0, 1, 2, 3, 4, 5, 6, 0, 7, 8, 9, 11, 0], [1, 35, 47, 59, 17, 23, 29, 3, 5, 10, 13, 0], [0, 1, 2, 3, 4, 5, 0, 0, 6, 7, 0, 0, 8, 0, 0, 0, 0, 0, 0, 9, 0, 10, 11, 12, 13, 14, 15]]
def mOff (c k : Nat) : Nat := (mOf.getD c []).getD k 0
/-- fields of truth values -/
def mBo : List (Nat × Nat) := [(0, 0), (8, 11), (9, 6)]
/-- the texts of the constants -/
def mTx : List (List Nat) := [[112, 101, 114, 115, 111, 110], [119, 101, 105, 103, 104, 116], [102, 117, 108, 108], [117, 112], [114, 105, 110, 103], [111, 110], [97, 115, 108, 101, 101, 112], [110, 101, 101, 100], [104, 111, 117, 114], [100, 97, 121], [116, 104, 101, 32, 116, 101, 120, 116, 32, 105, 115, 32, 119, 114, 111, 110, 103], [116, 104, 101, 114, 101, 32, 97, 114, 101, 32, 49, 50, 32, 116, 101, 120, 116, 115], [102, 97, 100, 101], [109, 101, 110, 100], [100, 114, 111, 119, 115, 101], [105, 102], [110, 111, 116], [100, 111, 119, 110], [116, 111, 112], [98, 111, 114, 110, 101], [115, 116, 114, 101, 110, 103, 116, 104], [97, 119, 97, 107, 101], [97, 110, 100], [111, 114], [116, 104, 101, 114, 101, 32, 105, 115, 32, 110, 111, 32, 115, 117, 99, 104, 32, 112, 101, 114, 115, 111, 110], [110, 111, 116, 104, 105, 110, 103, 32, 105, 115, 32, 116, 111, 108, 100, 32, 98, 121, 32, 116, 104, 97, 116, 32, 110, 117, 109, 98, 101, 114], [116, 104, 97, 116, 32, 105, 115, 32, 110, 111, 110, 101, 44, 32, 111, 114, 32, 116, 119, 111, 32, 97, 114, 101, 32, 111, 110, 101], [116, 104, 101, 114, 101, 32, 105, 115, 32, 110, 111, 32, 115, 117, 99, 104, 32, 114, 105, 110, 103], [105, 116, 32, 99, 97, 110, 110, 111, 116, 32, 98, 101]]
abbrev mS : Type := Nat × List (Option Value) × List Value × mM
def mLd (L : List (Option Value)) (k : Nat) : Option Value := L.getD k none
def mAs (i : Nat) (L : List (Option Value)) (k : Nat) (st : List Value) (M : mM) : Option mS := match st with
  | .int x :: r => if k < L.length then some (i + 1, L.set k (some (.int x)), r, M) else none
  | .ref x :: r => if k < L.length then some (i + 1, L.set k (some (.ref x)), r, M) else none
  | .null :: r => if k < L.length then some (i + 1, L.set k (some .null), r, M) else none
  | _ => none
def mIl (i : Nat) (L : List (Option Value)) (k : Nat) (st : List Value) (M : mM) : Option mS := match mLd L k with
  | some (.int x) => some (i + 1, L, .int x :: st, M)
  | _ => none
def mAl (i : Nat) (L : List (Option Value)) (k : Nat) (st : List Value) (M : mM) : Option mS := match mLd L k with
  | some (.ref x) => some (i + 1, L, .ref x :: st, M)
  | some .null => some (i + 1, L, .null :: st, M)
  | _ => none
def mIi (i : Nat) (L : List (Option Value)) (k : Nat) (n : Int) (st : List Value) (M : mM) : Option mS := match mLd L k with
  | some (.int x) => some (i + 1, L.set k (some (.int (x + Int32.ofInt n))), st, M)
  | _ => none
def mB2 (f : Int32 → Int32 → Int32) (i : Nat) (L : List (Option Value)) (st : List Value) (M : mM) : Option mS := match st with
  | .int y :: .int x :: r => some (i + 1, L, .int (f x y) :: r, M)
  | _ => none
def mDv (f : Int32 → Int32 → Int32) (i : Nat) (L : List (Option Value)) (st : List Value) (M : mM) : Option mS := match st with
  | .int y :: .int x :: r => if y = 0 then none else some (i + 1, L, .int (f x y) :: r, M)
  | _ => none
def mU1 (f : Int32 → Int32) (i : Nat) (L : List (Option Value)) (st : List Value) (M : mM) : Option mS := match st with
  | .int x :: r => some (i + 1, L, .int (f x) :: r, M)
  | _ => none
def mIf (c : Int32 → Bool) (i t : Nat) (L : List (Option Value)) (st : List Value) (M : mM) : Option mS := match st with
  | .int x :: r => some (bif c x then t else i + 1, L, r, M)
  | _ => none
def mIc (c : Int32 → Int32 → Bool) (i t : Nat) (L : List (Option Value)) (st : List Value) (M : mM) : Option mS := match st with
  | .int y :: .int x :: r => some (bif c x y then t else i + 1, L, r, M)
  | _ => none
def mGf (c k : Nat) (i : Nat) (L : List (Option Value)) (st : List Value) (M : mM) : Option mS := match st with
  | .ref o :: r => if (mSh o).1 = c then (match mOff c k with
    | 0 => some (i + 1, L, .int (M o k) :: r, M)
    | d + 1 => some (i + 1, L, .ref (o + (d + 1)) :: r, M)) else none
  | _ => none
def mPf (c k : Nat) (i : Nat) (L : List (Option Value)) (st : List Value) (M : mM) : Option mS := match st with
  | .int x :: .ref o :: r => if (mSh o).1 = c ∧ c < 10 then (match mOff c k with
    | 0 => if (c, k) ∈ mBo then (if x = 0 ∨ x = 1 then some (i + 1, L, r, mst M o k x) else none) else some (i + 1, L, r, mst M o k x)
    | _ + 1 => none) else none
  | _ => none
def mIn (x : Int32) (n : Nat) : Bool := !(decide (x < 0) || decide (n ≤ x.toNatClampNeg))
def mLen (M : mM) (o : Nat) : Nat := bif Nat.beq (mSh o).1 15 then (M 233 0).toNatClampNeg else (mSh o).2
def mLda (K : Nat) (i : Nat) (L : List (Option Value)) (st : List Value) (M : mM) : Option mS := match st with
  | .int x :: .ref o :: r => if (mSh o).1 = K ∧ mIn x (mSh o).2 = true then some (i + 1, L, .int (M o x.toNatClampNeg) :: r, M) else none
  | _ => none
def mLds (i : Nat) (L : List (Option Value)) (st : List Value) (M : mM) : Option mS := match st with
  | .int x :: .ref o :: r => if (mSh o).1 = 15 ∧ mIn x (M 233 0).toNatClampNeg = true then some (i + 1, L, .int (M o x.toNatClampNeg) :: r, M) else mLda 10 i L st M
  | _ => none
def mLdb (i : Nat) (L : List (Option Value)) (st : List Value) (M : mM) : Option mS := match st with
  | .int _ :: .ref o :: _ => if (mSh o).1 = 11 then mLda 11 i L st M else mLda 12 i L st M
  | _ => none
def mSta (K : Nat) (f : Int32 → Int32) (i : Nat) (L : List (Option Value)) (st : List Value) (M : mM) : Option mS := match st with
  | .int v :: .int x :: .ref o :: r => if (mSh o).1 = K ∧ mIn x (mSh o).2 = true then some (i + 1, L, r, mst M o x.toNatClampNeg (f v)) else none
  | _ => none
def mStb (i : Nat) (L : List (Option Value)) (st : List Value) (M : mM) : Option mS := match st with
  | .int _ :: .int _ :: .ref o :: _ => if (mSh o).1 = 11 then mSta 11 (vp_nar .byte) i L st M else mSta 12 (vp_nar .boolean) i L st M
  | _ => none
def mStl (i : Nat) (L : List (Option Value)) (st : List Value) (M : mM) : Option mS := match st with
  | .long v :: .int x :: .ref o :: r => if (mSh o).1 = 13 ∧ mIn x (mSh o).2 = true ∧ v.toInt32.toInt64 = v then some (i + 1, L, r, mst M o x.toNatClampNeg v.toInt32) else none
  | _ => none
def mLdl (i : Nat) (L : List (Option Value)) (st : List Value) (M : mM) : Option mS := match st with
  | .int x :: .ref o :: r => if (mSh o).1 = 13 ∧ mIn x (mSh o).2 = true then some (i + 1, L, .long (M o x.toNatClampNeg).toInt64 :: r, M) else none
  | _ => none
def mLdt (i : Nat) (L : List (Option Value)) (st : List Value) (M : mM) : Option mS := match st with
  | .int x :: .ref o :: r => if (mSh o).1 = 14 ∧ mIn x (mSh o).2 = true then some (i + 1, L, .ref (71 + 12 * x.toNatClampNeg) :: r, M) else none
  | _ => none
def mAl2 (i : Nat) (L : List (Option Value)) (st : List Value) (M : mM) : Option mS := match st with
  | .ref o :: r => if (mSh o).1 = 15 then some (i + 1, L, .int (M 233 0) :: r, M) else if 10 ≤ (mSh o).1 ∧ (mSh o).1 ≤ 14 then some (i + 1, L, .int (nI (mSh o).2) :: r, M) else none
  | _ => none
def mSwi (lo hi : Int) (n i : Nat) (L : List (Option Value)) (st : List Value) (M : mM) : Option mS := match st with
  | .int x :: r => (match mSw n with
    | [] => none
    | d :: ts => if x.toInt < lo ∨ hi < x.toInt then some (d, L, r, M) else (match ts[(x.toInt - lo).toNat]? with
      | some t => some (t, L, r, M)
      | none => none))
  | _ => none
def mC1 (v : Value) : Bool := match v with | .int _ => true | .ref _ => true | .null => true | _ => false
def mIst (i : Nat) (L : List (Option Value)) (k : Nat) (st : List Value) (M : mM) : Option mS := match st with
  | .int _ :: _ => mAs i L k st M
  | _ => none
def mAsr (i : Nat) (L : List (Option Value)) (k : Nat) (st : List Value) (M : mM) : Option mS := match st with
  | .ref _ :: _ => mAs i L k st M
  | .null :: _ => mAs i L k st M
  | _ => none
def mI2l (i : Nat) (L : List (Option Value)) (st : List Value) (M : mM) : Option mS := match st with
  | .int x :: r => some (i + 1, L, .long x.toInt64 :: r, M)
  | _ => none
def mLcm (i : Nat) (L : List (Option Value)) (st : List Value) (M : mM) : Option mS := match st with
  | .long y :: .long x :: r => some (i + 1, L, .int (lg_cmp x y) :: r, M)
  | _ => none
def mDup (i : Nat) (L : List (Option Value)) (st : List Value) (M : mM) : Option mS := match st with
  | v :: r => if mC1 v = true then some (i + 1, L, v :: v :: r, M) else none
  | _ => none
def mDup2 (i : Nat) (L : List (Option Value)) (st : List Value) (M : mM) : Option mS := match st with
  | v :: u :: r => if mC1 v = true ∧ mC1 u = true then some (i + 1, L, v :: u :: v :: u :: r, M) else none
  | _ => none
def mPop (i : Nat) (L : List (Option Value)) (st : List Value) (M : mM) : Option mS := match st with
  | v :: r => if mC1 v = true then some (i + 1, L, r, M) else none
  | _ => none
def mIfn (a b : Nat) (L : List (Option Value)) (st : List Value) (M : mM) : Option mS := match st with
  | .null :: r => some (a, L, r, M)
  | .ref _ :: r => some (b, L, r, M)
  | _ => none
/-- one step that is no call, no end and no throw -/
def mstep (e : mE) (i : Nat) (L : List (Option Value)) (st : List Value) (M : mM) : Option mS := match e with
  | (ins, _, _, a, b, _) => match ins with
    | .iconst n => some (i + 1, L, .int (Int32.ofInt n) :: st, M)
    | .bipush n => some (i + 1, L, .int (Int8.ofInt n).toInt32 :: st, M)
    | .sipush n => some (i + 1, L, .int (Int16.ofInt n).toInt32 :: st, M)
    | .aconst_null => some (i + 1, L, .null :: st, M)
    | .ldc _ => (match a with
      | 0 => some (i + 1, L, .int (Int32.ofNat b) :: st, M)
      | _ + 1 => some (i + 1, L, .ref (400 + b) :: st, M))
    | .ldc_w _ => (match a with
      | 0 => some (i + 1, L, .int (Int32.ofNat b) :: st, M)
      | _ + 1 => some (i + 1, L, .ref (400 + b) :: st, M))
    | .iload k => mIl i L k st M
    | .iload_n k => mIl i L k.val st M
    | .aload k => mAl i L k st M
    | .aload_n k => mAl i L k.val st M
    | .istore k => mIst i L k st M
    | .istore_n k => mIst i L k.val st M
    | .astore k => mAsr i L k st M
    | .astore_n k => mAsr i L k.val st M
    | .iinc k n => mIi i L k n st M
    | .iadd => mB2 (fun x y => x + y) i L st M
    | .isub => mB2 (fun x y => x - y) i L st M
    | .imul => mB2 (fun x y => x * y) i L st M
    | .iand => mB2 (fun x y => x &&& y) i L st M
    | .ior => mB2 (fun x y => x ||| y) i L st M
    | .ixor => mB2 (fun x y => x ^^^ y) i L st M
    | .ishl => mB2 (fun x y => x <<< (y &&& 31)) i L st M
    | .ishr => mB2 (fun x y => x >>> (y &&& 31)) i L st M
    | .iushr => mB2 (fun x y => (x.toUInt32 >>> (y.toUInt32 &&& Int32.toUInt32 31)).toInt32) i L st M
    | .idiv => mDv (fun x y => x / y) i L st M
    | .irem => mDv (fun x y => x - x / y * y) i L st M
    | .ineg => mU1 (fun x => -x) i L st M
    | .i2b => mU1 (fun x => x.toInt8.toInt32) i L st M
    | .i2l => mI2l i L st M
    | .lcmp => mLcm i L st M
    | .dup => mDup i L st M
    | .dup2 => mDup2 i L st M
    | .pop => mPop i L st M
    | .goto _ => some (a, L, st, M)
    | .ifCond .eq _ => mIf (fun x => decide (x = 0)) i a L st M
    | .ifCond .ne _ => mIf (fun x => decide (¬ x = 0)) i a L st M
    | .ifCond .lt _ => mIf (fun x => decide (x < 0)) i a L st M
    | .ifCond .ge _ => mIf (fun x => decide (0 ≤ x)) i a L st M
    | .ifCond .gt _ => mIf (fun x => decide (0 < x)) i a L st M
    | .ifCond .le _ => mIf (fun x => decide (x ≤ 0)) i a L st M
    | .if_icmp .eq _ => mIc (fun x y => decide (x = y)) i a L st M
    | .if_icmp .ne _ => mIc (fun x y => decide (¬ x = y)) i a L st M
    | .if_icmp .lt _ => mIc (fun x y => decide (x < y)) i a L st M
    | .if_icmp .ge _ => mIc (fun x y => decide (y ≤ x)) i a L st M
    | .if_icmp .gt _ => mIc (fun x y => decide (y < x)) i a L st M
    | .if_icmp .le _ => mIc (fun x y => decide (x ≤ y)) i a L st M
    | .ifnull _ => mIfn a (i + 1) L st M
    | .ifnonnull _ => mIfn (i + 1) a L st M
    | .tableswitch _ lo hi _ => mSwi lo hi a i L st M
    | .getfield _ => mGf a b i L st M
    | .putfield _ => mPf a b i L st M
    | .iaload => mLds i L st M
    | .baload => mLdb i L st M
    | .laload => mLdl i L st M
    | .aaload => mLdt i L st M
    | .iastore => mSta 10 (fun v => v) i L st M
    | .bastore => mStb i L st M
    | .lastore => mStl i L st M
    | .arraylength => mAl2 i L st M
    | _ => none
/-- methods of the library that are known by what they answer: 1 min, 2 max, 3 arraycopy, 4 length, 5 charAt -/
def mP1 (args : List Value) (M : mM) : Option (Option Int32 × mM) := match args with
  | [.int x, .int y] => some (some (if y < x then y else x), M)
  | _ => none
def mP2 (args : List Value) (M : mM) : Option (Option Int32 × mM) := match args with
  | [.int x, .int y] => some (some (if x < y then y else x), M)
  | _ => none
def mP3 (args : List Value) (M : mM) : Option (Option Int32 × mM) := match args with
  | [.ref p, .int sp, .ref q, .int dp, .int n] => if (mSh p).1 = 10 ∧ (mSh q).1 = 10 ∧ ¬ sp < 0 ∧ ¬ dp < 0 ∧ ¬ n < 0 ∧ sp.toNatClampNeg + n.toNatClampNeg ≤ (mSh p).2 ∧ dp.toNatClampNeg + n.toNatClampNeg ≤ (mSh q).2 then
      some (none, fun z => if z = q then va_cpy (M p) (M q) sp.toNatClampNeg dp.toNatClampNeg n.toNatClampNeg else M z) else none
  | _ => none
def mP4 (args : List Value) (M : mM) : Option (Option Int32 × mM) := match args with
  | [.ref s] => if 400 ≤ s then (match mTx[s - 400]? with | some t => some (some (nI t.length), M) | none => none) else none
  | _ => none
def mP5 (args : List Value) (M : mM) : Option (Option Int32 × mM) := match args with
  | [.ref s, .int k] => if 400 ≤ s then (match mTx[s - 400]? with | some t => if mIn k t.length = true then some (some (nI (t.getD k.toNatClampNeg 0)), M) else none | none => none) else none
  | _ => none
def mPrim (f : Nat) (args : List Value) (M : mM) : Option (Option Int32 × mM) := match f with
  | 1 => mP1 args M
  | 2 => mP2 args M
  | 3 => mP3 args M
  | 4 => mP4 args M
  | 5 => mP5 args M
  | _ => none
def mPn (f : Nat) : Nat := match f with | 3 => 5 | 4 => 1 | _ => 2
def mEn (L : List Value) (n : Nat) : List (Option Value) := L.map some ++ List.replicate (n - L.length) none
def mRv (a : Nat) (args : List Value) : Bool := match args with | .ref o :: _ => Nat.beq (mSh o).1 a | _ => Nat.beq a 99
def mRec (a : Nat) (args : List Value) : Bool := Nat.beq a 99 || mRv a args
def mV4 (st : List Value) : Bool := Nat.ble ((st.map fun v => v.category).sum) 8

