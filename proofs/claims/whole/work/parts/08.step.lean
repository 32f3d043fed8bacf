/-! one step of the small machine is steps of the machine -/
def mGw : List Cond := lw_tbl.filter goodWord
theorem mGw_of {w : Cond} {i : Nat} (h : lw_tbl[i]? = some w) (g : goodWord w = true) : w ∈ mGw := List.mem_filter.mpr ⟨List.mem_of_getElem? h, g⟩
def mLn (ins : Instr) : Nat := match ins with
  | .newarray _ => 2 | .bipush _ => 2 | .sipush _ => 3 | .ldc _ => 2 | .ldc_w _ => 3 | .iload _ => 2 | .aload _ => 2 | .istore _ => 2 | .astore _ => 2 | .iinc _ _ => 3
  | .goto _ => 3 | .ifCond _ _ => 3 | .if_icmp _ _ => 3 | .ifnull _ => 3 | .ifnonnull _ => 3 | .getfield _ => 3 | .putfield _ => 3 | .invokevirtual _ => 3 | .invokestatic _ => 3 | .invokespecial _ => 3 | .new _ => 3
  | _ => 1
def mPc (code : List mE) (i : Nat) : Nat := match code[i]? with
  | some e => e.2.1
  | none => 0
def mJ (code : List mE) (pc : Nat) (off : Int) (t : Nat) : Bool := decide ((pc : Int) + off = (mPc code t : Int))
def mNx (code : List mE) (i pc ln : Nat) : Bool := decide (mPc code (i + 1) = pc + ln)
def mSwOk (code : List mE) (pc : Nat) : List Nat → List Int → Bool
  | [], [] => true
  | t :: ts, o :: os => mJ code pc o t && mSwOk code pc ts os
  | _, _ => false
def mFd (own : String) (idx a b w : Nat) : Bool := match vwCl[a]? with
  | some q => decide (b < q.2.2) && decide (lw_tbl[w]? = some (.fieldLink own idx (q.2.1 b).1 (q.2.1 b).2.1 (q.2.1 b).2.2.1))
  | none => false
def mFp (a b : Nat) : Bool := match vwCl[a]? with
  | some q => decide ((q.2.1 b).2.2.2 = false) && (bif decide ((a, b) ∈ mBo) then decide ((q.2.1 b).2.2.1 = "Z") else decide ((q.2.1 b).2.2.1 = "I"))
  | none => false
def mCst (own : String) (idx a b w : Nat) : Bool := bif Nat.beq a 0 then decide (lw_tbl[w]? = some (.constant own idx (Int32.ofNat b))) else (match mStr[w]? with
  | some q => decide (q.1 = own) && decide (q.2.1 = idx) && decide (q.2.2.2 = b)
  | none => false)
/-- an entry of a method's table is what the bytes say, and what it links stands among the words -/
def mOkE (own : String) (bytes : ByteArray) (code : List mE) (i : Nat) (e : mE) : Bool := match e with
  | (ins, pc, ln, a, b, w) => decide (decode bytes pc = .ok (ins, ln)) && (match ins with
    | .goto off => Nat.beq ln 3 && mJ code pc off a
    | .ifCond _ off => Nat.beq ln 3 && mJ code pc off a && mNx code i pc ln
    | .if_icmp _ off => Nat.beq ln 3 && mJ code pc off a && mNx code i pc ln
    | .ifnull off => Nat.beq ln 3 && mJ code pc off a && mNx code i pc ln
    | .ifnonnull off => Nat.beq ln 3 && mJ code pc off a && mNx code i pc ln
    | .tableswitch d _ _ os => mSwOk code pc (mSw a) (d :: os.toList)
    | .ireturn => Nat.beq ln 1
    | .return_ => Nat.beq ln 1
    | .athrow => Nat.beq ln 1
    | .new _ => Nat.beq ln 3
    | .getfield idx => Nat.beq ln 3 && mNx code i pc ln && mFd own idx a b w
    | .putfield idx => Nat.beq ln 3 && mNx code i pc ln && mFd own idx a b w && mFp a b
    | .ldc idx => Nat.beq ln 2 && mNx code i pc ln && mCst own idx a b w
    | .ldc_w idx => Nat.beq ln 3 && mNx code i pc ln && mCst own idx a b w
    | _ => Nat.beq ln (mLn ins) && mNx code i pc ln)
/-- the frame of method y -/
def mFr (y : Nat) (p : Program) (s : State) (m : MethodId) (args : Array Value) (c : Code) : Prop :=
  p.tables.exec = Jvm.exec ∧ c.code = (mT y).2.1 ∧ c.maxLocals = mKl y ∧ s.vm.findClass (mT y).1.cls = some m.cls ∧ ∀ w ∈ mGw, w.before args s = true
def mScr (G : mG) (s : State) (M : mM) : Prop := ∃ L : Nat, M 233 0 = nI L ∧ L < 2 ^ 31 ∧ va_X (gA G 232) L (M 232) s s.heap ∧ gA G 232 < s.heap.size ∧ gA G 232 < gZ G
def mDy (G : mG) (s : State) (M : mM) (H : Heap) (locs : List Loc) : Prop := va_P (gD G) vwCl (mWs G M) H ∧ va_D (mA G) (mWs G M) ∧ va_S (mA G) s.heap H locs ∧ mScr G s M
theorem mScr_row {G : mG} {s : State} {M M' : mM} (h : mScr G s M) (h1 : M' 232 = M 232) (h2 : M' 233 = M 233) : mScr G s M' := by
  obtain ⟨L, a, b⟩ := h
  exact ⟨L, by rw [h2]; exact a, by rw [h1]; exact b⟩
theorem mB2_inv {f : Int32 → Int32 → Int32} {i : Nat} {L : List (Option Value)} {st : List Value} {M : mM} {r : mS} (h : mB2 f i L st M = some r) : ∃ x y st', st = .int y :: .int x :: st' ∧ r = (i + 1, L, .int (f x y) :: st', M) := by
  unfold mB2 at h
  split at h
  · exact ⟨_, _, _, rfl, (Option.some.inj h).symm⟩
  · cases h
theorem mDv_inv {f : Int32 → Int32 → Int32} {i : Nat} {L : List (Option Value)} {st : List Value} {M : mM} {r : mS} (h : mDv f i L st M = some r) : ∃ x y st', st = .int y :: .int x :: st' ∧ ¬ y = 0 ∧ r = (i + 1, L, .int (f x y) :: st', M) := by
  unfold mDv at h
  split at h
  · split at h
    · cases h
    · exact ⟨_, _, _, rfl, by assumption, (Option.some.inj h).symm⟩
  · cases h
theorem mU1_inv {f : Int32 → Int32} {i : Nat} {L : List (Option Value)} {st : List Value} {M : mM} {r : mS} (h : mU1 f i L st M = some r) : ∃ x st', st = .int x :: st' ∧ r = (i + 1, L, .int (f x) :: st', M) := by
  unfold mU1 at h
  split at h
  · exact ⟨_, _, rfl, (Option.some.inj h).symm⟩
  · cases h
theorem mIf_inv {f : Int32 → Bool} {i t : Nat} {L : List (Option Value)} {st : List Value} {M : mM} {r : mS} (h : mIf f i t L st M = some r) : ∃ x st', st = .int x :: st' ∧ r = (bif f x then t else i + 1, L, st', M) := by
  unfold mIf at h
  split at h
  · exact ⟨_, _, rfl, (Option.some.inj h).symm⟩
  · cases h
theorem mIc_inv {f : Int32 → Int32 → Bool} {i t : Nat} {L : List (Option Value)} {st : List Value} {M : mM} {r : mS} (h : mIc f i t L st M = some r) : ∃ x y st', st = .int y :: .int x :: st' ∧ r = (bif f x y then t else i + 1, L, st', M) := by
  unfold mIc at h
  split at h
  · exact ⟨_, _, _, rfl, (Option.some.inj h).symm⟩
  · cases h
theorem mIl_inv {i k : Nat} {L : List (Option Value)} {st : List Value} {M : mM} {r : mS} (h : mIl i L k st M = some r) : ∃ x, mLd L k = some (.int x) ∧ r = (i + 1, L, .int x :: st, M) := by
  unfold mIl at h
  split at h
  · exact ⟨_, by assumption, (Option.some.inj h).symm⟩
  · cases h
theorem mAl_inv {i k : Nat} {L : List (Option Value)} {st : List Value} {M : mM} {r : mS} (h : mAl i L k st M = some r) : (∃ x, mLd L k = some (.ref x) ∧ r = (i + 1, L, .ref x :: st, M)) ∨ (mLd L k = some .null ∧ r = (i + 1, L, .null :: st, M)) := by
  unfold mAl at h
  split at h
  · exact Or.inl ⟨_, by assumption, (Option.some.inj h).symm⟩
  · exact Or.inr ⟨by assumption, (Option.some.inj h).symm⟩
  · cases h
theorem mAs_inv {i k : Nat} {L : List (Option Value)} {st : List Value} {M : mM} {r : mS} (h : mAs i L k st M = some r) : ∃ v st', st = v :: st' ∧ (∃ x, v = .int x ∨ ∃ x, v = .ref x ∨ v = .null) ∧ k < L.length ∧ r = (i + 1, L.set k (some v), st', M) := by
  unfold mAs at h
  split at h
  · split at h
    · exact ⟨_, _, rfl, ⟨_, Or.inl rfl⟩, by assumption, (Option.some.inj h).symm⟩
    · cases h
  · split at h
    · exact ⟨_, _, rfl, ⟨0, Or.inr ⟨_, Or.inl rfl⟩⟩, by assumption, (Option.some.inj h).symm⟩
    · cases h
  · split at h
    · exact ⟨_, _, rfl, ⟨0, Or.inr ⟨0, Or.inr rfl⟩⟩, by assumption, (Option.some.inj h).symm⟩
    · cases h
  · cases h
theorem mIi_inv {i k : Nat} {n : Int} {L : List (Option Value)} {st : List Value} {M : mM} {r : mS} (h : mIi i L k n st M = some r) : ∃ x, mLd L k = some (.int x) ∧ r = (i + 1, L.set k (some (.int (x + Int32.ofInt n))), st, M) := by
  unfold mIi at h
  split at h
  · exact ⟨_, by assumption, (Option.some.inj h).symm⟩
  · cases h
theorem mGf_inv {c k i : Nat} {L : List (Option Value)} {st : List Value} {M : mM} {r : mS} (h : mGf c k i L st M = some r) : ∃ o st', st = .ref o :: st' ∧ (mSh o).1 = c ∧ ((mOff c k = 0 ∧ r = (i + 1, L, .int (M o k) :: st', M)) ∨ ∃ d, mOff c k = d + 1 ∧ r = (i + 1, L, .ref (o + (d + 1)) :: st', M)) := by
  unfold mGf at h
  split at h
  · split at h
    · refine ⟨_, _, rfl, by assumption, ?_⟩
      split at h
      · exact Or.inl ⟨by assumption, (Option.some.inj h).symm⟩
      · exact Or.inr ⟨_, by assumption, (Option.some.inj h).symm⟩
    · cases h
  · cases h
theorem mPf_inv {c k i : Nat} {L : List (Option Value)} {st : List Value} {M : mM} {r : mS} (h : mPf c k i L st M = some r) : ∃ x o st', st = .int x :: .ref o :: st' ∧ (mSh o).1 = c ∧ mOff c k = 0 ∧ ((c, k) ∈ mBo → (x = 0 ∨ x = 1)) ∧ c < 10 ∧ r = (i + 1, L, st', mst M o k x) := by
  unfold mPf at h
  split at h
  · split at h
    · rename_i hcc
      split at h
      · split at h
        · split at h
          · exact ⟨_, _, _, rfl, hcc.1, by assumption, fun _ => by assumption, hcc.2, (Option.some.inj h).symm⟩
          · cases h
        · exact ⟨_, _, _, rfl, hcc.1, by assumption, fun q => absurd q (by assumption), hcc.2, (Option.some.inj h).symm⟩
      · cases h
    · cases h
  · cases h
theorem mLda_inv {K i : Nat} {L : List (Option Value)} {st : List Value} {M : mM} {r : mS} (h : mLda K i L st M = some r) : ∃ x o st', st = .int x :: .ref o :: st' ∧ (mSh o).1 = K ∧ mIn x (mSh o).2 = true ∧ r = (i + 1, L, .int (M o x.toNatClampNeg) :: st', M) := by
  unfold mLda at h
  split at h
  · split at h
    · rename_i q
      exact ⟨_, _, _, rfl, q.1, q.2, (Option.some.inj h).symm⟩
    · cases h
  · cases h
theorem mSta_inv {K i : Nat} {f : Int32 → Int32} {L : List (Option Value)} {st : List Value} {M : mM} {r : mS} (h : mSta K f i L st M = some r) : ∃ v x o st', st = .int v :: .int x :: .ref o :: st' ∧ (mSh o).1 = K ∧ mIn x (mSh o).2 = true ∧ r = (i + 1, L, st', mst M o x.toNatClampNeg (f v)) := by
  unfold mSta at h
  split at h
  · split at h
    · rename_i q
      exact ⟨_, _, _, _, rfl, q.1, q.2, (Option.some.inj h).symm⟩
    · cases h
  · cases h
theorem mIn_vp {x : Int32} {n : Nat} (h : mIn x n = true) : vp_in x n := by
  unfold mIn at h
  unfold vp_in
  simp only [Bool.not_eq_true', Bool.or_eq_false_iff, decide_eq_false_iff_not] at h
  exact fun q => q.elim h.1 h.2
