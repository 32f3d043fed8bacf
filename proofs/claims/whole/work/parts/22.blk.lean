/-! the language of the printed methods, and how its pieces follow the small machine -/
abbrev ix (x : Int32) : Nat := x.toNatClampNeg
def mB (b : Bool) : Int32 := bif b then 1 else 0
def ushr (x y : Int32) : Int32 := (x.toUInt32 >>> (y.toUInt32 &&& Int32.toUInt32 31)).toInt32
def rmd (x y : Int32) : Int32 := x - x / y * y
def mMin (x y : Int32) : Int32 := if y < x then y else x
def mMax (x y : Int32) : Int32 := if x < y then y else x
def mIsB (x : Int32) : Bool := decide (x = 0) || decide (x = 1)
def gd {α : Type} (b : Bool) (k : Option α) : Option α := bif b then k else none
def wr {α : Type} (M : mM) (k : mM → α) : α := k M
def b1 {α γ : Type} (o : Option α) (k : α → Option γ) : Option γ := match o with | none => none | some a => k a
def b2 {α γ : Type} (o : Option (α × mM)) (k : α → mM → Option γ) : Option γ := match o with | none => none | some (a, M) => k a M
def tb {α β : Type} (o : Option ((α ⊕ Nat) × mM)) (k : α → mM → Option ((β ⊕ Nat) × mM)) : Option ((β ⊕ Nat) × mM) := match o with
  | none => none
  | some (.inl a, M) => k a M
  | some (.inr E, M) => some (.inr E, M)
def th {α γ : Type} (o : Option ((α ⊕ Nat) × mM)) (k : α → mM → Option γ) (e : Nat → mM → Option γ) : Option γ := match o with
  | none => none
  | some (.inl a, M) => k a M
  | some (.inr E, M) => e E M
/-- what a switch takes: the row's number, n for none -/
def swN (x : Int32) (lo : Int) (n : Nat) : Nat := if x.toInt < lo ∨ lo + n ≤ x.toInt then n else (x.toInt - lo).toNat
theorem o_b1 {α γ : Type} {o : Option α} {k : α → Option γ} {r : γ} (h : b1 o k = some r) : ∃ x, o = some x ∧ k x = some r := by
  cases o with
  | none => cases h
  | some x => exact ⟨x, rfl, h⟩
theorem o_b2 {α γ : Type} {o : Option (α × mM)} {k : α → mM → Option γ} {r : γ} (h : b2 o k = some r) : ∃ x M, o = some (x, M) ∧ k x M = some r := by
  cases o with
  | none => cases h
  | some x => exact ⟨x.1, x.2, rfl, h⟩
theorem o_tb {α β : Type} {o : Option ((α ⊕ Nat) × mM)} {k : α → mM → Option ((β ⊕ Nat) × mM)} {r : (β ⊕ Nat) × mM} (h : tb o k = some r) : (∃ x M, o = some (.inl x, M) ∧ k x M = some r) ∨ (∃ E M, o = some (.inr E, M) ∧ r = (.inr E, M)) := by
  cases o with
  | none => cases h
  | some x =>
    obtain ⟨x | E, M⟩ := x
    · exact Or.inl ⟨x, M, rfl, h⟩
    · cases h
      exact Or.inr ⟨E, M, rfl, rfl⟩
theorem o_th {α γ : Type} {o : Option ((α ⊕ Nat) × mM)} {k : α → mM → Option γ} {e : Nat → mM → Option γ} {r : γ} (h : th o k e = some r) : (∃ x M, o = some (.inl x, M) ∧ k x M = some r) ∨ (∃ E M, o = some (.inr E, M) ∧ e E M = some r) := by
  cases o with
  | none => cases h
  | some x =>
    obtain ⟨x | E, M⟩ := x
    · exact Or.inl ⟨x, M, rfl, h⟩
    · exact Or.inr ⟨E, M, rfl, h⟩
theorem o_gd {α : Type} {b : Bool} {k : Option α} {r : α} (h : gd b k = some r) : b = true ∧ k = some r := by
  cases b with
  | false => cases h
  | true => exact ⟨rfl, h⟩
theorem o_wr {α : Type} {M : mM} {k : mM → α} {r : α} (h : wr M k = r) : ∃ M1, M1 = M ∧ k M1 = r := ⟨M, rfl, h⟩
theorem o_bif {α : Type} {c : Bool} {a b r : α} (h : (bif c then a else b) = r) : (c = true ∧ a = r) ∨ (c = false ∧ b = r) := by
  cases c with
  | false => exact Or.inr ⟨rfl, h⟩
  | true => exact Or.inl ⟨rfl, h⟩
theorem swN_le (x : Int32) (lo : Int) (n : Nat) : swN x lo n ≤ n := by
  unfold swN
  split <;> omega
theorem mB_e0t {b : Bool} (h : b = false) : decide (mB b = 0) = true := by subst h; rfl
theorem mB_e0f {b : Bool} (h : b = true) : decide (mB b = 0) = false := by subst h; rfl
theorem mB_n0t {b : Bool} (h : b = true) : decide (¬ mB b = 0) = true := by subst h; rfl
theorem mB_n0f {b : Bool} (h : b = false) : decide (¬ mB b = 0) = false := by subst h; rfl
theorem mB_rok {b : Bool} : mRok (some .boolean) (mB b) = true := by cases b <;> rfl
theorem mIsB_eq {x : Int32} (h : mIsB x = true) : x = mB (decide (x = 1)) := by
  unfold mIsB at h
  rw [Bool.or_eq_true, decide_eq_true_iff, decide_eq_true_iff] at h
  rcases h with h | h <;> subst h <;> rfl
theorem mB_is {b : Bool} : mB b = 0 ∨ mB b = 1 := by cases b; exact Or.inl rfl; exact Or.inr rfl
/-- what came out of a method, as the small machine says it -/
def eI (x : Int32) : Option Int32 := some x
def eB (b : Bool) : Option Int32 := some (mB b)
def eU (_ : Unit) : Option Int32 := none
def emR {α : Type} (f : α → Option Int32) (M : mM) (x : α) : (Option Int32 ⊕ Nat) × mM × Nat := (.inl (f x), M, 0)
def emW {α : Type} (f : α → Option Int32) (x : α × mM) : (Option Int32 ⊕ Nat) × mM × Nat := (.inl (f x.1), x.2, 0)
def emT {α : Type} (f : α → Option Int32) (x : (α ⊕ Nat) × mM) : (Option Int32 ⊕ Nat) × mM × Nat := match x with
  | (.inl a, M) => (.inl (f a), M, 0)
  | (.inr E, M) => (.inr E, M, 1)
def emH {α : Type} (f : α → Option Int32) (x : α × mM × Nat) : (Option Int32 ⊕ Nat) × mM × Nat := (.inl (f x.1), x.2.1, x.2.2)
/-- shapes of the things that are given -/
def mTwB (o : Nat) : Bool := decide (mSh o = (7, 0)) && decide (mSh (o + 1) = (10, 8)) && decide (mSh (o + 2) = (10, 8)) && decide (mSh (o + 3) = (10, 8)) && decide (mSh (o + 4) = (10, 8)) && decide (mSh (o + 5) = (10, 8)) && decide (mSh (o + 6) = (10, 8)) && decide (mSh (o + 7) = (10, 8)) && decide (mSh (o + 8) = (10, 8)) && decide (mSh (o + 9) = (1, 0)) && decide (mSh (o + 10) = (10, 360)) && decide (mSh (o + 11) = (10, 8))
def mLwB (o : Nat) : Bool := decide (mSh o = (0, 0)) && decide (mSh (o + 1) = (10, 12)) && decide (mSh (o + 2) = (10, 12)) && decide (mSh (o + 3) = (10, 12)) && decide (mSh (o + 4) = (10, 400)) && decide (mSh (o + 5) = (10, 64))
def mLgB (o : Nat) : Bool := decide (mSh o = (1, 0)) && decide (mSh (o + 1) = (10, 360))
def mA8B (o : Nat) : Bool := decide (mSh o = (10, 8))
theorem mTw {o : Nat} (h : mTwB o = true) : mSh o = (7, 0) ∧ mSh (o + 1) = (10, 8) ∧ mSh (o + 2) = (10, 8) ∧ mSh (o + 3) = (10, 8) ∧ mSh (o + 4) = (10, 8) ∧ mSh (o + 5) = (10, 8) ∧ mSh (o + 6) = (10, 8) ∧ mSh (o + 7) = (10, 8) ∧ mSh (o + 8) = (10, 8) ∧ mSh (o + 9) = (1, 0) ∧ mSh (o + 10) = (10, 360) ∧ mSh (o + 11) = (10, 8) := by
  unfold mTwB at h
  simp only [Bool.and_eq_true, decide_eq_true_iff] at h
  obtain ⟨⟨⟨⟨⟨⟨⟨⟨⟨⟨⟨a, b⟩, c⟩, d⟩, e⟩, f⟩, g⟩, i⟩, j⟩, k⟩, l⟩, m⟩ := h
  exact ⟨a, b, c, d, e, f, g, i, j, k, l, m⟩
theorem mTw0 {o : Nat} (h : mTwB o = true) : mSh o = (7, 0) := (mTw h).1
theorem mTw1 {o : Nat} (h : mTwB o = true) : mSh (o + 1) = (10, 8) := (mTw h).2.1
theorem mTw2 {o : Nat} (h : mTwB o = true) : mSh (o + 2) = (10, 8) := (mTw h).2.2.1
theorem mTw3 {o : Nat} (h : mTwB o = true) : mSh (o + 3) = (10, 8) := (mTw h).2.2.2.1
theorem mTw4 {o : Nat} (h : mTwB o = true) : mSh (o + 4) = (10, 8) := (mTw h).2.2.2.2.1
theorem mTw5 {o : Nat} (h : mTwB o = true) : mSh (o + 5) = (10, 8) := (mTw h).2.2.2.2.2.1
theorem mTw6 {o : Nat} (h : mTwB o = true) : mSh (o + 6) = (10, 8) := (mTw h).2.2.2.2.2.2.1
theorem mTw7 {o : Nat} (h : mTwB o = true) : mSh (o + 7) = (10, 8) := (mTw h).2.2.2.2.2.2.2.1
theorem mTw8 {o : Nat} (h : mTwB o = true) : mSh (o + 8) = (10, 8) := (mTw h).2.2.2.2.2.2.2.2.1
theorem mTw9 {o : Nat} (h : mTwB o = true) : mSh (o + 9) = (1, 0) := (mTw h).2.2.2.2.2.2.2.2.2.1
theorem mTw11 {o : Nat} (h : mTwB o = true) : mSh (o + 11) = (10, 8) := (mTw h).2.2.2.2.2.2.2.2.2.2.2
theorem mLw {o : Nat} (h : mLwB o = true) : mSh o = (0, 0) ∧ mSh (o + 1) = (10, 12) ∧ mSh (o + 2) = (10, 12) ∧ mSh (o + 3) = (10, 12) ∧ mSh (o + 4) = (10, 400) ∧ mSh (o + 5) = (10, 64) := by
  unfold mLwB at h
  simp only [Bool.and_eq_true, decide_eq_true_iff] at h
  obtain ⟨⟨⟨⟨⟨a, b⟩, c⟩, d⟩, e⟩, f⟩ := h
  exact ⟨a, b, c, d, e, f⟩
theorem mLw0 {o : Nat} (h : mLwB o = true) : mSh o = (0, 0) := (mLw h).1
theorem mLw1 {o : Nat} (h : mLwB o = true) : mSh (o + 1) = (10, 12) := (mLw h).2.1
theorem mLw2 {o : Nat} (h : mLwB o = true) : mSh (o + 2) = (10, 12) := (mLw h).2.2.1
theorem mLw3 {o : Nat} (h : mLwB o = true) : mSh (o + 3) = (10, 12) := (mLw h).2.2.2.1
theorem mLw4 {o : Nat} (h : mLwB o = true) : mSh (o + 4) = (10, 400) := (mLw h).2.2.2.2.1
theorem mLw5 {o : Nat} (h : mLwB o = true) : mSh (o + 5) = (10, 64) := (mLw h).2.2.2.2.2
theorem mLgB0 {o : Nat} (h : mLgB o = true) : mSh o = (1, 0) := by
  unfold mLgB at h
  simp only [Bool.and_eq_true, decide_eq_true_iff] at h
  exact h.1
theorem mLgB1 {o : Nat} (h : mLgB o = true) : mSh (o + 1) = (10, 360) := by
  unfold mLgB at h
  simp only [Bool.and_eq_true, decide_eq_true_iff] at h
  exact h.2
theorem mA80 {o : Nat} (h : mA8B o = true) : mSh o = (10, 8) := of_decide_eq_true h
/-- a text -/
def mTxB (s : Nat) : Bool := Nat.ble 400 s && (mTx[s - 400]?).isSome
def mTt (s : Nat) : List Nat := (mTx[s - 400]?).getD []
theorem mTxB_of {s : Nat} (h : mTxB s = true) : 400 ≤ s ∧ mTx[s - 400]? = some (mTt s) := by
  unfold mTxB at h
  rw [Bool.and_eq_true] at h
  refine ⟨Nat.ble_eq.mp h.1, ?_⟩
  unfold mTt
  cases e : mTx[s - 400]? with
  | none => rw [e] at h; cases h.2
  | some t => rfl
/-- arraycopy -/
def mAcB (p q : Nat) (sp dp n : Int32) : Bool := decide ((mSh p).1 = 10 ∧ (mSh q).1 = 10 ∧ ¬ sp < 0 ∧ ¬ dp < 0 ∧ ¬ n < 0 ∧ sp.toNatClampNeg + n.toNatClampNeg ≤ (mSh p).2 ∧ dp.toNatClampNeg + n.toNatClampNeg ≤ (mSh q).2)
def mAc (p q : Nat) (sp dp n : Int32) (M : mM) : mM := fun z => if z = q then va_cpy (M p) (M q) sp.toNatClampNeg dp.toNatClampNeg n.toNatClampNeg else M z
section
variable {d y i : Nat} {L : List (Option Value)} {st : List Value} {M M1 : mM} {r : (Option Int32 ⊕ Nat) × mM × Nat} {code : List mE} {ins : Instr} {pc ln a b w w' : Nat}
theorem ev_1 (hc : mKc y = code) (he : code[i]? = some (ins, pc, ln, a, b, w)) (hk : mKd ins = 0) {i' : Nat} {L' : List (Option Value)} {st' : List Value} (hs : mstep (ins, pc, ln, a, b, w) i L st M = some (i', L', st', M1)) (hE : Ev d y i' L' st' M1 r) : Ev d y i L st M r := by
  subst hc
  obtain ⟨n, hn⟩ := hE
  exact ⟨n + 1, by rw [mx_s he hk hs]; exact hn⟩
/-- steps up to a branch that is taken, or not -/
theorem ev_goT (hc : mKc y = code) (k : Nat) {c : Bool} {t e : Nat} {L' : List (Option Value)} {st' : List Value} (h : mGo code k (i, L, st, M) = some (bif c then t else e, L', st', M)) (hb : c = true) (hE : Ev d y t L' st' M r) : Ev d y i L st M r := by
  subst hb
  exact ev_go hc k h hE
theorem ev_goF (hc : mKc y = code) (k : Nat) {c : Bool} {t e : Nat} {L' : List (Option Value)} {st' : List Value} (h : mGo code k (i, L, st, M) = some (bif c then t else e, L', st', M)) (hb : c = false) (hE : Ev d y e L' st' M r) : Ev d y i L st M r := by
  subst hb
  exact ev_go hc k h hE
theorem ev_gf (hc : mKc y = code) (he : code[i]? = some (.getfield w, pc, ln, a, b, w')) {o f : Nat} (hs : mSh o = (a, f)) (ho : mOff a b = 0) (hE : Ev d y (i + 1) L (.int (M o b) :: st) M r) : Ev d y i L (.ref o :: st) M r := by
  refine ev_1 hc he rfl (M1 := M) ?_ hE
  show (if (mSh o).1 = a then _ else none) = _
  rw [hs, if_pos rfl, ho]
theorem ev_gr (hc : mKc y = code) (he : code[i]? = some (.getfield w, pc, ln, a, b, w')) {o f j : Nat} (hs : mSh o = (a, f)) (ho : mOff a b = j + 1) (hE : Ev d y (i + 1) L (.ref (o + (j + 1)) :: st) M r) : Ev d y i L (.ref o :: st) M r := by
  refine ev_1 hc he rfl (M1 := M) ?_ hE
  show (if (mSh o).1 = a then _ else none) = _
  rw [hs, if_pos rfl, ho]
theorem ev_pf (hc : mKc y = code) (he : code[i]? = some (.putfield w, pc, ln, a, b, w')) {o f : Nat} {x : Int32} (hs : mSh o = (a, f)) (ha : Nat.blt a 10 = true) (ho : mOff a b = 0) (hb : (a, b) ∈ mBo → x = 0 ∨ x = 1) (hM : M1 = mst M o b x) (hE : Ev d y (i + 1) L st M1 r) : Ev d y i L (.int x :: .ref o :: st) M r := by
  subst hM
  refine ev_1 hc he rfl ?_ hE
  show (if (mSh o).1 = a ∧ a < 10 then _ else none) = _
  rw [hs, if_pos ⟨rfl, Nat.blt_eq.mp ha⟩, ho]
  dsimp only
  by_cases h : (a, b) ∈ mBo
  · rw [if_pos h, if_pos (hb h)]
  · rw [if_neg h]
theorem ev_ia (hc : mKc y = code) (he : code[i]? = some (.iaload, pc, ln, a, b, w)) {o n : Nat} {x : Int32} (hs : mSh o = (10, n)) (hx : mIn x n = true) (hE : Ev d y (i + 1) L (.int (M o (ix x)) :: st) M r) : Ev d y i L (.int x :: .ref o :: st) M r := by
  refine ev_1 hc he rfl (M1 := M) ?_ hE
  show (if (mSh o).1 = 15 ∧ _ then _ else if (mSh o).1 = 10 ∧ mIn x (mSh o).2 = true then _ else none) = _
  rw [hs, if_neg (fun h => absurd h.1 (show ¬ (10 : Nat) = 15 by decide)), if_pos ⟨rfl, hx⟩]
theorem ev_ba (hc : mKc y = code) (he : code[i]? = some (.baload, pc, ln, a, b, w)) {o n : Nat} {x : Int32} (hs : mSh o = (11, n) ∨ mSh o = (12, n)) (hx : mIn x n = true) (hE : Ev d y (i + 1) L (.int (M o (ix x)) :: st) M r) : Ev d y i L (.int x :: .ref o :: st) M r := by
  refine ev_1 hc he rfl (M1 := M) ?_ hE
  show (if (mSh o).1 = 11 then (if (mSh o).1 = 11 ∧ mIn x (mSh o).2 = true then _ else none) else (if (mSh o).1 = 12 ∧ mIn x (mSh o).2 = true then _ else none)) = _
  rcases hs with hs | hs
  · rw [hs, if_pos rfl, if_pos ⟨rfl, hx⟩]
  · rw [hs, if_neg (show ¬ (12 : Nat) = 11 by decide), if_pos ⟨rfl, hx⟩]
theorem ev_is (hc : mKc y = code) (he : code[i]? = some (.iastore, pc, ln, a, b, w)) {o n : Nat} {x v : Int32} (hs : mSh o = (10, n)) (hx : mIn x n = true) (hM : M1 = mst M o (ix x) v) (hE : Ev d y (i + 1) L st M1 r) : Ev d y i L (.int v :: .int x :: .ref o :: st) M r := by
  subst hM
  refine ev_1 hc he rfl ?_ hE
  show (if (mSh o).1 = 10 ∧ mIn x (mSh o).2 = true then _ else none) = _
  rw [hs, if_pos ⟨rfl, hx⟩]
theorem ev_bsB (hc : mKc y = code) (he : code[i]? = some (.bastore, pc, ln, a, b, w)) {o n : Nat} {x v : Int32} (hs : mSh o = (11, n)) (hx : mIn x n = true) (hM : M1 = mst M o (ix x) (vp_nar .byte v)) (hE : Ev d y (i + 1) L st M1 r) : Ev d y i L (.int v :: .int x :: .ref o :: st) M r := by
  subst hM
  refine ev_1 hc he rfl ?_ hE
  show (if (mSh o).1 = 11 then (if (mSh o).1 = 11 ∧ mIn x (mSh o).2 = true then _ else none) else _) = _
  rw [hs, if_pos rfl, if_pos ⟨rfl, hx⟩]
theorem ev_bsZ (hc : mKc y = code) (he : code[i]? = some (.bastore, pc, ln, a, b, w)) {o n : Nat} {x v : Int32} (hs : mSh o = (12, n)) (hx : mIn x n = true) (hM : M1 = mst M o (ix x) (vp_nar .boolean v)) (hE : Ev d y (i + 1) L st M1 r) : Ev d y i L (.int v :: .int x :: .ref o :: st) M r := by
  subst hM
  refine ev_1 hc he rfl ?_ hE
  show (if (mSh o).1 = 11 then _ else (if (mSh o).1 = 12 ∧ mIn x (mSh o).2 = true then _ else none)) = _
  rw [hs, if_neg (show ¬ (12 : Nat) = 11 by decide), if_pos ⟨rfl, hx⟩]
theorem ev_ls (hc : mKc y = code) (he : code[i]? = some (.lastore, pc, ln, a, b, w)) {o n : Nat} {x v : Int32} (hs : mSh o = (13, n)) (hx : mIn x n = true) (hM : M1 = mst M o (ix x) v) (hE : Ev d y (i + 1) L st M1 r) : Ev d y i L (.long v.toInt64 :: .int x :: .ref o :: st) M r := by
  subst hM
  refine ev_1 hc he rfl ?_ hE
  have hv : v.toInt64.toInt32 = v := Int32.toInt32_toInt64 v
  show (if (mSh o).1 = 13 ∧ mIn x (mSh o).2 = true ∧ v.toInt64.toInt32.toInt64 = v.toInt64 then some (i + 1, L, st, mst M o x.toNatClampNeg v.toInt64.toInt32) else none) = _
  rw [hs, hv, if_pos ⟨rfl, hx, rfl⟩]
theorem ev_aa (hc : mKc y = code) (he : code[i]? = some (.aaload, pc, ln, a, b, w)) {o n : Nat} {x : Int32} (hs : mSh o = (14, n)) (hx : mIn x n = true) (hE : Ev d y (i + 1) L (.ref (71 + 12 * ix x) :: st) M r) : Ev d y i L (.int x :: .ref o :: st) M r := by
  refine ev_1 hc he rfl (M1 := M) ?_ hE
  show (if (mSh o).1 = 14 ∧ mIn x (mSh o).2 = true then _ else none) = _
  rw [hs, if_pos ⟨rfl, hx⟩]
theorem ev_al (hc : mKc y = code) (he : code[i]? = some (.arraylength, pc, ln, a, b, w)) {o n k : Nat} (hs : mSh o = (k, n)) (hk : (Nat.ble 10 k && Nat.ble k 14) = true) (hE : Ev d y (i + 1) L (.int (nI n) :: st) M r) : Ev d y i L (.ref o :: st) M r := by
  refine ev_1 hc he rfl (M1 := M) ?_ hE
  rw [Bool.and_eq_true] at hk
  have h1 := Nat.ble_eq.mp hk.1
  have h2 := Nat.ble_eq.mp hk.2
  show (if (mSh o).1 = 15 then _ else if 10 ≤ (mSh o).1 ∧ (mSh o).1 ≤ 14 then some (i + 1, L, .int (nI (mSh o).2) :: st, M) else none) = _
  rw [hs, if_neg (by show ¬ k = 15; omega), if_pos ⟨h1, h2⟩]
theorem ev_dv (hc : mKc y = code) (he : code[i]? = some (.idiv, pc, ln, a, b, w)) {x v : Int32} (hx : decide (¬ v = 0) = true) (hE : Ev d y (i + 1) L (.int (x / v) :: st) M r) : Ev d y i L (.int v :: .int x :: st) M r := by
  refine ev_1 hc he rfl (M1 := M) ?_ hE
  show (if v = 0 then none else _) = _
  rw [if_neg (of_decide_eq_true hx)]
theorem ev_rm (hc : mKc y = code) (he : code[i]? = some (.irem, pc, ln, a, b, w)) {x v : Int32} (hx : decide (¬ v = 0) = true) (hE : Ev d y (i + 1) L (.int (rmd x v) :: st) M r) : Ev d y i L (.int v :: .int x :: st) M r := by
  refine ev_1 hc he rfl (M1 := M) ?_ hE
  show (if v = 0 then none else _) = _
  rw [if_neg (of_decide_eq_true hx)]
  rfl
theorem ev_sw (hc : mKc y = code) {d0 : Int} {lo hi : Int} {os : Array Int} (he : code[i]? = some (.tableswitch d0 lo hi os, pc, ln, a, b, w)) {x : Int32} {n j t z : Nat} {ts : List Nat} (ht : mSw a = z :: ts) (hn : hi = lo + n - 1) (hx : decide (swN x lo n = j) = true) (hj : Nat.blt j n = true) (hg : ts[j]? = some t) (hE : Ev d y t L st M r) : Ev d y i L (.int x :: st) M r := by
  refine ev_1 hc he rfl (M1 := M) ?_ hE
  have hx := of_decide_eq_true hx
  have hj := Nat.blt_eq.mp hj
  show (match mSw a with | [] => none | z :: ts => if x.toInt < lo ∨ hi < x.toInt then some (z, L, st, M) else (match ts[(x.toInt - lo).toNat]? with | some t => some (t, L, st, M) | none => none)) = _
  rw [ht]
  dsimp only
  unfold swN at hx
  by_cases hc : x.toInt < lo ∨ lo + n ≤ x.toInt
  · rw [if_pos hc] at hx; omega
  · rw [if_neg hc] at hx
    rw [if_neg (by omega), hx, hg]
theorem ev_swD (hc : mKc y = code) {d0 : Int} {lo hi : Int} {os : Array Int} (he : code[i]? = some (.tableswitch d0 lo hi os, pc, ln, a, b, w)) {x : Int32} {n z : Nat} {ts : List Nat} (ht : mSw a = z :: ts) (hn : hi = lo + n - 1) (hx : swN x lo n = n) (hE : Ev d y z L st M r) : Ev d y i L (.int x :: st) M r := by
  refine ev_1 hc he rfl (M1 := M) ?_ hE
  show (match mSw a with | [] => none | z :: ts => if x.toInt < lo ∨ hi < x.toInt then some (z, L, st, M) else (match ts[(x.toInt - lo).toNat]? with | some t => some (t, L, st, M) | none => none)) = _
  rw [ht]
  dsimp only
  unfold swN at hx
  by_cases hc : x.toInt < lo ∨ lo + n ≤ x.toInt
  · rw [if_pos (by omega)]
  · rw [if_neg hc] at hx
    omega
/-- a method of the library -/
theorem ev_pm (hc : mKc y = code) (he : code[i]? = some (ins, pc, ln, a, b, w)) (hk : mKd ins = 4) (ha : Nat.blt a 10 = true) (h8 : Nat.ble 8 d = true) {as rest : List Value} (hn : mPn a = as.length) (hst : st = as.reverse ++ rest) (hV : mV4 rest = true) {v : Option Int32} (hp : mPrim a as M = some (v, M1)) (hE : Ev d y (i + 1) L (mVl v ++ rest) M1 r) : Ev d y i L st M r := by
  subst hst
  have e1 : (as.reverse ++ rest).take (mPn a) = as.reverse := by rw [hn, ← List.length_reverse, List.take_left]
  have e2 : (as.reverse ++ rest).drop (mPn a) = rest := by rw [hn, ← List.length_reverse, List.drop_left]
  refine ev_lib hc he hk (Nat.blt_eq.mp ha) (Nat.ble_eq.mp h8) (by rw [hn, List.length_append, List.length_reverse]; omega) (by rw [e2]; exact hV) (by rw [e1, List.reverse_reverse]; exact hp) (by rw [e2]; exact hE)
theorem ev_ac (hc : mKc y = code) (he : code[i]? = some (ins, pc, ln, 3, b, w)) (hk : mKd ins = 4) (h8 : Nat.ble 8 d = true) {p q : Nat} {sp dp n : Int32} (hV : mV4 st = true) (hg : mAcB p q sp dp n = true) (hM : M1 = mAc p q sp dp n M) (hE : Ev d y (i + 1) L st M1 r) : Ev d y i L (.int n :: .int dp :: .ref q :: .int sp :: .ref p :: st) M r := by
  subst hM
  refine ev_pm hc he hk rfl h8 (as := [.ref p, .int sp, .ref q, .int dp, .int n]) rfl rfl hV (v := none) ?_ hE
  show (if _ then some ((none : Option Int32), mAc p q sp dp n M) else none) = _
  exact if_pos (of_decide_eq_true hg)
theorem ev_tl (hc : mKc y = code) (he : code[i]? = some (ins, pc, ln, 4, b, w)) (hk : mKd ins = 4) (h8 : Nat.ble 8 d = true) {s : Nat} (hV : mV4 st = true) (hg : mTxB s = true) (hE : Ev d y (i + 1) L (.int (nI (mTt s).length) :: st) M r) : Ev d y i L (.ref s :: st) M r := by
  obtain ⟨h4, ht⟩ := mTxB_of hg
  refine ev_pm hc he hk rfl h8 (as := [.ref s]) rfl rfl hV (v := some (nI (mTt s).length)) ?_ hE
  show mP4 [.ref s] M = _
  unfold mP4
  dsimp only
  rw [if_pos h4, ht]
theorem ev_tc (hc : mKc y = code) (he : code[i]? = some (ins, pc, ln, 5, b, w)) (hk : mKd ins = 4) (h8 : Nat.ble 8 d = true) {s : Nat} {k : Int32} (hV : mV4 st = true) (hg : mTxB s = true) (hx : mIn k (mTt s).length = true) (hE : Ev d y (i + 1) L (.int (nI ((mTt s).getD (ix k) 0)) :: st) M r) : Ev d y i L (.int k :: .ref s :: st) M r := by
  obtain ⟨h4, ht⟩ := mTxB_of hg
  refine ev_pm hc he hk rfl h8 (as := [.ref s, .int k]) rfl rfl hV (v := some (nI ((mTt s).getD (ix k) 0))) ?_ hE
  show mP5 [.ref s, .int k] M = _
  unfold mP5
  dsimp only
  rw [if_pos h4, ht]
  dsimp only
  rw [if_pos hx]
/-- the locals of a call, and the rest of the stack -/
theorem ev_cl {M2 : mM} {o : Option Int32 ⊕ Nat} {k1 k2 : Nat} (hc : mKc y = code) (he : code[i]? = some (ins, pc, ln, a, b, w)) (hk : mKd ins = 4) {as rest : List Value} (hq : (!Nat.blt a 10 && Nat.beq (mKn a) as.length && Nat.ble (mKn a) (mKl a) && as.all mC1 && mV4 rest) = true) (hr : mRec (mKi a) as = true) {v : Option Int32} (hcs : Cs d a as M (.inl v, M1, k1)) (hE : Ev (d + 1) y (i + 1) L (mVl v ++ rest) M1 (o, M2, k2)) : Ev (d + 1) y i L (as.reverse ++ rest) M (o, M2, k1 + k2) := by
  simp only [Bool.and_eq_true] at hq
  obtain ⟨⟨⟨⟨ha, hn⟩, hl⟩, h1⟩, hV⟩ := hq
  have hn := Nat.eq_of_beq_eq_true hn
  have ha : ¬ a < 10 := by intro h; rw [Nat.blt_eq.mpr h] at ha; cases ha
  have e1 : (as.reverse ++ rest).take (mKn a) = as.reverse := by rw [hn, ← List.length_reverse, List.take_left]
  have e2 : (as.reverse ++ rest).drop (mKn a) = rest := by rw [hn, ← List.length_reverse, List.drop_left]
  refine ev_call hc he hk ha (by rw [hn, List.length_append, List.length_reverse]; omega) (Nat.ble_eq.mp hl) (by rw [e1, List.reverse_reverse]; exact hr) (by rw [e1, List.all_reverse]; exact h1) (by rw [e2]; exact hV) (by rw [e1, List.reverse_reverse]; exact hcs) (by rw [e2]; exact hE)
theorem ev_clT {E k1 : Nat} (hc : mKc y = code) (he : code[i]? = some (ins, pc, ln, a, b, w)) (hk : mKd ins = 4) {as rest : List Value} (hq : (!Nat.blt a 10 && Nat.beq (mKn a) as.length && Nat.ble (mKn a) (mKl a) && as.all mC1 && mV4 rest) = true) (hr : mRec (mKi a) as = true) (hb : Nat.beq b 1 = false) (hcat : mCatch (mHd y) i E = none) (hcs : Cs d a as M (.inr E, M1, k1)) : Ev (d + 1) y i L (as.reverse ++ rest) M (.inr E, M1, k1) := by
  simp only [Bool.and_eq_true] at hq
  obtain ⟨⟨⟨⟨ha, hn⟩, hl⟩, h1⟩, hV⟩ := hq
  have hn := Nat.eq_of_beq_eq_true hn
  have ha : ¬ a < 10 := by intro h; rw [Nat.blt_eq.mpr h] at ha; cases ha
  have e1 : (as.reverse ++ rest).take (mKn a) = as.reverse := by rw [hn, ← List.length_reverse, List.take_left]
  have e2 : (as.reverse ++ rest).drop (mKn a) = rest := by rw [hn, ← List.length_reverse, List.drop_left]
  refine ev_callT hc he hk ha (by rw [hn, List.length_append, List.length_reverse]; omega) (Nat.ble_eq.mp hl) (by rw [e1, List.reverse_reverse]; exact hr) (by rw [e1, List.all_reverse]; exact h1) (by rw [e2]; exact hV) hb hcat (by rw [e1, List.reverse_reverse]; exact hcs)
/-- a call that throws what is caught here -/
theorem ev_clH {E k1 k2 h q : Nat} {M2 : mM} {o : Option Int32 ⊕ Nat} (hc : mKc y = code) (he : code[i]? = some (ins, pc, ln, a, b, w)) (hk : mKd ins = 4) {as rest : List Value} (hq : (!Nat.blt a 10 && Nat.beq (mKn a) as.length && Nat.ble (mKn a) (mKl a) && as.all mC1 && mV4 rest) = true) (hr : mRec (mKi a) as = true) (hb : Nat.beq b 1 = false) (hcat : mCatch (mHd y) i E = some h) (hz : mAst (code[h]?) = some q) (hzl : Nat.blt q L.length = true) (hcs : Cs d a as M (.inr E, M1, k1)) (hE : Ev (d + 1) y (h + 1) (L.set q none) [] M1 (o, M2, k2)) : Ev (d + 1) y i L (as.reverse ++ rest) M (o, M2, k1 + k2) := by
  subst hc
  simp only [Bool.and_eq_true] at hq
  obtain ⟨⟨⟨⟨ha, hn⟩, hl⟩, h1⟩, hV⟩ := hq
  have hn := Nat.eq_of_beq_eq_true hn
  have ha : ¬ a < 10 := by intro h; rw [Nat.blt_eq.mpr h] at ha; cases ha
  have e1 : (as.reverse ++ rest).take (mKn a) = as.reverse := by rw [hn, ← List.length_reverse, List.take_left]
  have e2 : (as.reverse ++ rest).drop (mKn a) = rest := by rw [hn, ← List.length_reverse, List.drop_left]
  obtain ⟨n1, h2⟩ := hcs
  obtain ⟨n2, h3⟩ := hE
  refine ⟨max n1 n2 + 1, ?_⟩
  have g2 := mx_mono _ _ _ _ _ _ _ _ _ _ (Nat.le_max_left n1 n2) (Nat.le_refl d) h2
  rw [mx_d he hk ha (by rw [hn, List.length_append, List.length_reverse]; omega) (Nat.ble_eq.mp hl) (by rw [e1, List.reverse_reverse]; exact hr) (by rw [e1, List.all_reverse]; exact h1) (by rw [e2]; exact hV), e1, e2, List.reverse_reverse, g2]
  show (bif Nat.beq b 1 then none else _) = _
  rw [m_bff hb, hcat]
  dsimp only
  rw [hz]
  dsimp only
  rw [m_bif hzl]
  exact mAdd_some (mx_mono _ _ _ _ _ _ _ _ _ _ (Nat.le_max_right n1 n2) (Nat.le_refl (d + 1)) h3)
end
theorem ev_cl0 {d y i : Nat} {L : List (Option Value)} {M M1 : mM} {R : (Option Int32 ⊕ Nat) × mM × Nat} {code : List mE} {ins : Instr} {pc ln a b w : Nat} (hc : mKc y = code) (he : code[i]? = some (ins, pc, ln, a, b, w)) (hk : mKd ins = 4) {as rest : List Value} (hq : (!Nat.blt a 10 && Nat.beq (mKn a) as.length && Nat.ble (mKn a) (mKl a) && as.all mC1 && mV4 rest) = true) (hr : mRec (mKi a) as = true) {v : Option Int32} (hcs : Cs d a as M (.inl v, M1, 0)) (hE : Ev (d + 1) y (i + 1) L (mVl v ++ rest) M1 R) : Ev (d + 1) y i L (as.reverse ++ rest) M R := by
  obtain ⟨o, M2, k2⟩ := R
  have := ev_cl hc he hk hq hr hcs hE
  rw [Nat.zero_add] at this
  exact this
abbrev mZ : Type := (Option Int32 ⊕ Nat) × mM × Nat
theorem Ev.rz {d y i : Nat} {L : List (Option Value)} {st : List Value} {M : mM} {R R' : mZ} (h : R = R') (hE : Ev d y i L st M R') : Ev d y i L st M R := by rw [h]; exact hE
theorem mIsB_or {x : Int32} (h : mIsB x = true) : x = 0 ∨ x = 1 := by
  unfold mIsB at h
  rw [Bool.or_eq_true, decide_eq_true_iff, decide_eq_true_iff] at h
  exact h
theorem Ev.reval {d y i : Nat} {L : List (Option Value)} {st : List Value} {M : mM} {R : mZ} {x x' : Int32} (h : x = x') (hE : Ev d y i L (.int x' :: st) M R) : Ev d y i L (.int x :: st) M R := by rw [h]; exact hE
theorem ev_tr {d y i : Nat} {L : List (Option Value)} {st : List Value} {M : mM} {code : List mE} {x pc ln a b w : Nat} (hc : mKc y = code) (he : code[i]? = some (.new x, pc, ln, a, b, w)) (h8 : Nat.ble 8 d = true) (hV : mV4 st = true) (ha : Nat.blt a 5 = true) (hh : (mHd y).isEmpty = true) : Ev d y i L st M (.inr a, M, 1) := ev_throw hc he rfl (Nat.ble_eq.mp h8) hV (Nat.blt_eq.mp ha) hh
theorem mLe.nl : mLe [] [] := mLe.rf
theorem mLe.sk {L L' : List (Option Value)} {u : Option Value} (h : mLe L L') : mLe (none :: L) (u :: L') := by
  refine ⟨by rw [List.length_cons, List.length_cons, h.1], fun k v hk => ?_⟩
  cases k with
  | zero => cases hk
  | succ k => exact h.2 k v hk
theorem mLe.kp {L L' : List (Option Value)} {u : Option Value} (h : mLe L L') : mLe (u :: L) (u :: L') := by
  refine ⟨by rw [List.length_cons, List.length_cons, h.1], fun k v hk => ?_⟩
  cases k with
  | zero => exact hk
  | succ k => exact h.2 k v hk
theorem m_rec {a o n : Nat} {as : List Value} (h : mSh o = (a, n)) : mRec a (.ref o :: as) = true := by
  show (Nat.beq a 99 || Nat.beq (mSh o).1 a) = true
  rw [h]
  show (Nat.beq a 99 || Nat.beq a a) = true
  rw [Nat.beq_refl, Bool.or_true]
