/-! orders of rows: the first that can be, by numbers and by steps -/
/-- the k-th figure of f, of m to the base m; the number of the first j figures; the rows that they name -/
def gO (m f k : Nat) : Nat := f / m ^ (m - 1 - k) % m
def gP (m f j : Nat) : Nat := f / m ^ (m - j)
def gS (m f : Nat) : Nat → Nat
  | 0 => 0
  | j + 1 => gS m f j ||| 2 ^ gO m f j
def gR (m f : Nat) : Bool := alK (fun k => !(gS m f k).testBit (gO m f k)) m
def gVl (S : Nat → Bool) (m f : Nat) : Bool := gR m f && alK (fun k => S (gS m f (k + 1))) m
theorem gO_lt {m f k : Nat} (hm : 0 < m) : gO m f k < m := Nat.mod_lt _ hm
theorem or_lt {m d r : Nat} (hm : m ≤ 4) (hd : d < 2 ^ m) (hr : r < m) : d ||| 2 ^ r < 2 ^ m := Nat.or_lt_two_pow hd (Nat.pow_lt_pow_right (by decide) hr)
theorem gS_lt {m f : Nat} (h0 : 0 < m) (hm : m ≤ 4) : ∀ j, gS m f j < 2 ^ m := by
  intro j
  induction j with
  | zero => exact Nat.two_pow_pos m
  | succ j ih => exact or_lt hm ih (gO_lt h0)
def pc4 (d : Nat) : Nat := (bif d.testBit 0 then 1 else 0) + ((bif d.testBit 1 then 1 else 0) + ((bif d.testBit 2 then 1 else 0) + (bif d.testBit 3 then 1 else 0)))
theorem pc4_or {d r : Nat} (hd : d < 16) (hr : r < 4) (h : d.testBit r = false) : pc4 (d ||| 2 ^ r) = pc4 d + 1 := (by decide +kernel : ∀ d, d < 16 → ∀ r, r < 4 → d.testBit r = false → pc4 (d ||| 2 ^ r) = pc4 d + 1) d hd r hr h
theorem pc4_all {d m : Nat} (hm : m ≤ 4) (hd : d < 2 ^ m) : pc4 d = m ↔ d = 2 ^ m - 1 := by
  have : ∀ m, m ≤ 4 → ∀ d, d < 2 ^ m → (pc4 d = m ↔ d = 2 ^ m - 1) := by decide +kernel
  exact this m hm d hd
theorem p16 {m : Nat} (hm : m ≤ 4) : 2 ^ m ≤ 16 := (by decide : ∀ m, m ≤ 4 → 2 ^ m ≤ 16) m hm
theorem gS_pc {m f : Nat} (h0 : 0 < m) (hm : m ≤ 4) (h : gR m f = true) : ∀ j, j ≤ m → pc4 (gS m f j) = j := by
  intro j
  induction j with
  | zero => intro _; exact (by decide : pc4 0 = 0)
  | succ j ih =>
    intro hj
    have h1 := alK_iff.mp h j (by omega)
    have hb : (gS m f j).testBit (gO m f j) = false := by
      cases z : (gS m f j).testBit (gO m f j)
      · rfl
      · rw [z] at h1; cases h1
    have l1 := gS_lt (f := f) h0 hm j
    have l2 := p16 hm
    have l3 := gO_lt (f := f) (k := j) h0
    rw [show gS m f (j + 1) = gS m f j ||| 2 ^ gO m f j from rfl, pc4_or (by omega) (by omega) hb, ih (by omega)]
/-- the least of the first k -/
def fsK (c : Nat → Bool) : Nat → Nat
  | 0 => 0
  | k + 1 => bif exK c k then fsK c k else k
theorem fsK_p {c : Nat → Bool} : ∀ {k : Nat}, exK c k = true → c (fsK c k) = true ∧ fsK c k < k ∧ ∀ i, i < fsK c k → c i = false := by
  intro k
  induction k with
  | zero => intro h; cases h
  | succ k ih =>
    intro h
    cases e : exK c k
    · have hk : c k = true := by rw [exK_s, e, Bool.false_or] at h; exact h
      rw [show fsK c (k + 1) = bif exK c k then fsK c k else k from rfl, e, cond_false]
      refine ⟨hk, Nat.lt_succ_self k, fun i hi => ?_⟩
      cases z : c i
      · rfl
      · rw [exK_iff.mpr ⟨i, hi, z⟩] at e; cases e
    · obtain ⟨a, b, d⟩ := ih e
      rw [show fsK c (k + 1) = bif exK c k then fsK c k else k from rfl, e, cond_true]
      exact ⟨a, by omega, d⟩
/-- the next row behind d, by the table T -/
def gN (T : Nat → Bool) (m d : Nat) : Nat := fsK (fun r => !d.testBit r && T (d ||| 2 ^ r)) m
def gK (T : Nat → Bool) (m : Nat) : Nat → Nat
  | 0 => 0
  | j + 1 => gK T m j ||| 2 ^ gN T m (gK T m j)
def gQ (T : Nat → Bool) (m : Nat) : Nat → Nat
  | 0 => 0
  | j + 1 => gQ T m j * m + gN T m (gK T m j)
/-- what the table says -/
def tabT (T S : Nat → Bool) (m : Nat) : Prop := ∀ d, d < 2 ^ m → T d = ((decide (d = 2 ^ m - 1) || exK (fun r => !d.testBit r && T (d ||| 2 ^ r)) m) && S d)
section
variable {T S : Nat → Bool} {m : Nat}
theorem gK_p (h0 : 0 < m) (hm : m ≤ 4) (hT : tabT T S m) (ht : T 0 = true) : ∀ j, j ≤ m → gK T m j < 2 ^ m ∧ pc4 (gK T m j) = j ∧ T (gK T m j) = true ∧ (j < m → gN T m (gK T m j) < m ∧ (gK T m j).testBit (gN T m (gK T m j)) = false ∧ T (gK T m (j + 1)) = true ∧ ∀ i, i < gN T m (gK T m j) → (gK T m j).testBit i = true ∨ T (gK T m j ||| 2 ^ i) = false) := by
  have nx : ∀ d, d < 2 ^ m → T d = true → pc4 d < m → gN T m d < m ∧ d.testBit (gN T m d) = false ∧ T (d ||| 2 ^ gN T m d) = true ∧ ∀ i, i < gN T m d → d.testBit i = true ∨ T (d ||| 2 ^ i) = false := fun d hd hTd hp => by
    have hne : ¬ d = 2 ^ m - 1 := fun e => by have := (pc4_all hm hd).mpr e; omega
    rw [hT d hd, decide_eq_false hne, Bool.false_or, Bool.and_eq_true] at hTd
    obtain ⟨a, b, c⟩ := fsK_p hTd.1
    rw [Bool.and_eq_true] at a
    refine ⟨b, ?_, a.2, fun i hi => ?_⟩
    · cases z : d.testBit (gN T m d)
      · rfl
      · have h1 : (!d.testBit (gN T m d)) = true := a.1
        rw [z] at h1
        cases h1
    · have := c i hi
      rw [Bool.and_eq_false_iff] at this
      rcases this with e | e
      · left
        cases z : d.testBit i
        · rw [z] at e; cases e
        · rfl
      · exact Or.inr e
  intro j
  induction j with
  | zero =>
    intro _
    have h1 : gK T m 0 < 2 ^ m := Nat.two_pow_pos m
    exact ⟨h1, (by decide : pc4 0 = 0), ht, fun h => nx 0 h1 ht h⟩
  | succ j ih =>
    intro hj
    obtain ⟨a, b, c, d⟩ := ih (by omega)
    obtain ⟨d1, d2, d3, -⟩ := d (by omega)
    have l2 := p16 hm
    have h1 : gK T m (j + 1) < 2 ^ m := or_lt hm a d1
    have h2 : pc4 (gK T m (j + 1)) = j + 1 := by rw [show gK T m (j + 1) = gK T m j ||| 2 ^ gN T m (gK T m j) from rfl, pc4_or (by omega) (by omega) d2, b]
    exact ⟨h1, h2, d3, fun h => nx _ h1 d3 (by omega)⟩
theorem gP_s {f j : Nat} (hj : j < m) : gP m f j = gP m f (j + 1) / m := by
  unfold gP
  rw [Nat.div_div_eq_div_mul, ← Nat.pow_succ, show Nat.succ (m - (j + 1)) = m - j from by omega]
theorem gO_P {f j : Nat} (hj : j < m) : gO m f j = gP m f (j + 1) % m := by
  unfold gO gP
  rw [show m - 1 - j = m - (j + 1) by omega]
theorem gQ_lt (h0 : 0 < m) (hm : m ≤ 4) (hT : tabT T S m) (ht : T 0 = true) : ∀ j, j ≤ m → gQ T m j < m ^ j := by
  intro j
  induction j with
  | zero => intro _; exact Nat.lt_succ_self 0
  | succ j ih =>
    intro hj
    have h1 := ih (by omega)
    have h2 := ((gK_p h0 hm hT ht j (by omega)).2.2.2 (by omega)).1
    rw [show gQ T m (j + 1) = gQ T m j * m + gN T m (gK T m j) from rfl, Nat.pow_succ]
    have h3 : (gQ T m j + 1) * m ≤ m ^ j * m := Nat.mul_le_mul_right m h1
    rw [Nat.add_mul, Nat.one_mul] at h3
    omega
theorem gQ_P (h0 : 0 < m) (hm : m ≤ 4) (hT : tabT T S m) (ht : T 0 = true) : ∀ i, i ≤ m → gP m (gQ T m m) (m - i) = gQ T m (m - i) := by
  intro i
  induction i with
  | zero => intro _; unfold gP; rw [Nat.sub_zero, Nat.sub_self, Nat.pow_zero, Nat.div_one]
  | succ i ih =>
    intro hi
    have h1 := ih (by omega)
    have e : m - i = m - (i + 1) + 1 := by omega
    rw [e] at h1
    have h2 := ((gK_p h0 hm hT ht (m - (i + 1)) (by omega)).2.2.2 (by omega)).1
    rw [gP_s (by omega), h1, show gQ T m (m - (i + 1) + 1) = gQ T m (m - (i + 1)) * m + gN T m (gK T m (m - (i + 1))) from rfl, Nat.mul_comm, Nat.mul_add_div h0, Nat.div_eq_of_lt h2, Nat.add_zero]
theorem gQ_O (h0 : 0 < m) (hm : m ≤ 4) (hT : tabT T S m) (ht : T 0 = true) {j : Nat} (hj : j < m) : gO m (gQ T m m) j = gN T m (gK T m j) := by
  have h1 := gQ_P h0 hm hT ht (m - (j + 1)) (by omega)
  rw [show m - (m - (j + 1)) = j + 1 by omega] at h1
  have h2 := ((gK_p h0 hm hT ht j (by omega)).2.2.2 hj).1
  rw [gO_P hj, h1, show gQ T m (j + 1) = gQ T m j * m + gN T m (gK T m j) from rfl, Nat.mul_comm, Nat.mul_add_mod, Nat.mod_eq_of_lt h2]
theorem gQ_S (h0 : 0 < m) (hm : m ≤ 4) (hT : tabT T S m) (ht : T 0 = true) : ∀ j, j ≤ m → gS m (gQ T m m) j = gK T m j := by
  intro j
  induction j with
  | zero => intro _; rfl
  | succ j ih =>
    intro hj
    rw [show gS m (gQ T m m) (j + 1) = gS m (gQ T m m) j ||| 2 ^ gO m (gQ T m m) j from rfl, ih (by omega), gQ_O h0 hm hT ht (by omega)]
    rfl
theorem gQ_V (h0 : 0 < m) (hm : m ≤ 4) (hT : tabT T S m) (ht : T 0 = true) : gVl S m (gQ T m m) = true := by
  unfold gVl gR
  rw [Bool.and_eq_true, alK_iff, alK_iff]
  constructor
  · intro j hj
    rw [gQ_S h0 hm hT ht j (by omega), gQ_O h0 hm hT ht hj, ((gK_p h0 hm hT ht j (by omega)).2.2.2 hj).2.1]
    rfl
  · intro j hj
    rw [gQ_S h0 hm hT ht (j + 1) (by omega)]
    obtain ⟨a, -, c, -⟩ := gK_p h0 hm hT ht (j + 1) (by omega)
    rw [hT _ a, Bool.and_eq_true] at c
    exact c.2
/-- a right order goes along the table -/
theorem gV_T (h0 : 0 < m) (hm : m ≤ 4) (hT : tabT T S m) (hS : S 0 = true) {f : Nat} (hv : gVl S m f = true) : ∀ i, i ≤ m → T (gS m f (m - i)) = true := by
  unfold gVl at hv
  rw [Bool.and_eq_true] at hv
  have hSj : ∀ j, j ≤ m → S (gS m f j) = true := fun j hj => by
    match j with
    | 0 => exact hS
    | j + 1 => exact alK_iff.mp hv.2 j (by omega)
  intro i
  induction i with
  | zero =>
    intro _
    rw [Nat.sub_zero, hT _ (gS_lt h0 hm m), hSj m (Nat.le_refl m), decide_eq_true ((pc4_all hm (gS_lt h0 hm m)).mp (gS_pc h0 hm hv.1 m (Nat.le_refl m)))]
    rfl
  | succ i ih =>
    intro hi
    have h1 := ih (by omega)
    have e : m - i = m - (i + 1) + 1 := by omega
    rw [e] at h1
    generalize hj : m - (i + 1) = j at h1 ⊢
    rw [hT _ (gS_lt h0 hm j), hSj j (by omega), exK_iff.mpr ⟨gO m f j, gO_lt h0, ?_⟩, Bool.or_true]
    · rfl
    · rw [Bool.and_eq_true]
      exact ⟨alK_iff.mp hv.1 j (by omega), h1⟩
theorem gV_le (h0 : 0 < m) (hm : m ≤ 4) (hT : tabT T S m) (hS : S 0 = true) (ht : T 0 = true) {f : Nat} (hv : gVl S m f = true) (hf : f < m ^ m) : gQ T m m ≤ f := by
  have key : ∀ j, j ≤ m → gQ T m j < gP m f j ∨ (gQ T m j = gP m f j ∧ gK T m j = gS m f j) := by
    intro j
    induction j with
    | zero =>
      intro _
      right
      refine ⟨?_, rfl⟩
      unfold gP
      rw [Nat.sub_zero, Nat.div_eq_of_lt hf]
      rfl
    | succ j ih =>
      intro hj
      obtain ⟨-, -, -, d⟩ := gK_p h0 hm hT ht j (by omega)
      obtain ⟨d1, d2, d3, d4⟩ := d (by omega)
      have e1 : gP m f (j + 1) = gP m f j * m + gO m f j := by
        rw [gP_s (show j < m by omega), gO_P (show j < m by omega), Nat.mul_comm]
        exact (Nat.div_add_mod _ _).symm
      have e2 : gQ T m (j + 1) = gQ T m j * m + gN T m (gK T m j) := rfl
      rcases ih (by omega) with h | ⟨h1, h2⟩
      · left
        have h3 : (gQ T m j + 1) * m ≤ gP m f j * m := Nat.mul_le_mul_right m h
        rw [Nat.add_mul, Nat.one_mul] at h3
        omega
      · have hTf : T (gS m f (j + 1)) = true := by
          have := gV_T h0 hm hT hS hv (m - (j + 1)) (by omega)
          rw [show m - (m - (j + 1)) = j + 1 by omega] at this
          exact this
        have hb : (gS m f j).testBit (gO m f j) = false := by
          unfold gVl at hv
          rw [Bool.and_eq_true] at hv
          have := alK_iff.mp hv.1 j (by omega)
          cases z : (gS m f j).testBit (gO m f j)
          · rfl
          · rw [z] at this; cases this
        by_cases hlt : gO m f j < gN T m (gK T m j)
        · rcases d4 _ hlt with a | a
          · rw [h2, hb] at a; cases a
          · rw [h2] at a
            rw [show gS m f (j + 1) = gS m f j ||| 2 ^ gO m f j from rfl, a] at hTf
            cases hTf
        · by_cases he : gO m f j = gN T m (gK T m j)
          · right
            refine ⟨by rw [e1, e2, h1, he], ?_⟩
            show gK T m j ||| 2 ^ gN T m (gK T m j) = gS m f j ||| 2 ^ gO m f j
            rw [he, h2]
          · left
            rw [e1, e2, h1]
            omega
  have h1 := key m (Nat.le_refl m)
  have h2 : gP m f m = f := by unfold gP; rw [Nat.sub_self, Nat.pow_zero, Nat.div_one]
  rw [h2] at h1
  omega
theorem gd_main (h0 : 0 < m) (hm : m ≤ 4) (hT : tabT T S m) (hS : S 0 = true) : (T 0 = true → ∃ F, F < m ^ m ∧ gVl S m F = true ∧ (∀ f, f < F → gVl S m f = false) ∧ ∀ j, j < m → gO m F j = gN T m (gK T m j)) ∧ (T 0 = false → ∀ f, f < m ^ m → gVl S m f = false) := by
  constructor
  · intro ht
    have hl := gQ_lt h0 hm hT ht m (Nat.le_refl m)
    refine ⟨gQ T m m, hl, gQ_V h0 hm hT ht, fun f hf => ?_, fun j hj => gQ_O h0 hm hT ht hj⟩
    cases z : gVl S m f
    · rfl
    · have := gV_le h0 hm hT hS ht z (by omega)
      omega
  · intro ht f hf
    cases z : gVl S m f
    · rfl
    · have := gV_T h0 hm hT hS z m (Nat.le_refl m)
      rw [Nat.sub_self] at this
      rw [show gS m f 0 = 0 from rfl, ht] at this
      cases this
end
