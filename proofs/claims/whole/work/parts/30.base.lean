/-! numbers, loops, sets as bits -/
theorem wh_n {σ ρ : Type} {b : σ → Option (ρ ⊕ σ)} (I : Nat → σ) (N : Nat) (r : ρ) (hN : N < 100000) (hs : ∀ k, k < N → b (I k) = some (.inr (I (k + 1)))) (he : b (I N) = some (.inl r)) : wh 100000 b (I 0) = some r := wh_row I r N 100000 hs he hN
theorem wh_8 {σ ρ : Type} {b : σ → Option (ρ ⊕ σ)} (I : Nat → σ) (r : ρ) (hs : ∀ k, k < 8 → b (I k) = some (.inr (I (k + 1)))) (he : b (I 8) = some (.inl r)) : wh 100000 b (I 0) = some r := wh_row I r 8 100000 hs he (by decide)
theorem i_ix {k : Nat} (h : k < 2 ^ 31) : ix (nI k) = k := nI_clamp h
theorem i_in {k n : Nat} (h : k < n) (hn : n < 2 ^ 31) : mIn (nI k) n = true := by
  unfold mIn
  rw [nI_clamp (by omega), decide_eq_false (nI_pos (by omega)), decide_eq_false (by omega)]
  rfl
theorem i_le {a b : Nat} (ha : a < 2 ^ 31) (hb : b < 2 ^ 31) : decide (nI a ≤ nI b) = decide (a ≤ b) := by
  by_cases h : a ≤ b
  · rw [decide_eq_true h, decide_eq_true (nI_le h hb)]
  · rw [decide_eq_false h, decide_eq_false (nI_ge (by omega) ha)]
theorem i_lt {a b : Nat} (ha : a < 2 ^ 31) (hb : b < 2 ^ 31) : decide (nI a < nI b) = decide (a < b) := by
  by_cases h : a < b
  · rw [decide_eq_true h, decide_eq_true (nI_lt h hb)]
  · rw [decide_eq_false h, decide_eq_false (nI_nlt (by omega) ha)]
theorem i_eq {a b : Nat} (ha : a < 2 ^ 31) (hb : b < 2 ^ 31) : decide (nI a = nI b) = decide (a = b) := by
  by_cases h : a = b
  · rw [decide_eq_true h, decide_eq_true (by rw [h])]
  · rw [decide_eq_false h, decide_eq_false (fun z => h ((nI_eq ha hb).mp z))]
theorem i_8 {k : Nat} (h : k < 8) : decide ((8 : Int32) ≤ nI k) = false := by
  have := i_le (a := 8) (b := k) (by decide) (by omega)
  rw [show nI 8 = (8 : Int32) from rfl] at this
  rw [this]
  exact decide_eq_false (by omega)
theorem i_88 : decide ((8 : Int32) ≤ nI 8) = true := by decide
/-- bits -/
theorem has_bit {s : Int32} {j : Nat} (h : j < 32) : f_X11_has s (nI j) = s.toBitVec.getLsbD j := by
  have key : ∀ j, j < 32 → ((s >>> (nI j &&& (31 : Int32))) &&& (1 : Int32)).toBitVec = if s.toBitVec.getLsbD j then 1#32 else 0#32 := by
    intro j hj
    have e : (nI j &&& (31 : Int32)) = nI j := (by decide +kernel : ∀ j, j < 32 → (nI j &&& (31 : Int32)) = nI j) j hj
    rw [e]
    have e2 : (s >>> nI j).toBitVec = s.toBitVec.sshiftRight j := by
      show (s.toBitVec.sshiftRight' ((nI j).toBitVec.smod 32)) = _
      have : (nI j).toBitVec.smod 32 = BitVec.ofNat 32 j := (by decide +kernel : ∀ j, j < 32 → (nI j).toBitVec.smod 32 = BitVec.ofNat 32 j) j hj
      rw [this, BitVec.sshiftRight_eq', BitVec.toNat_ofNat, Nat.mod_eq_of_lt (by omega)]
    show (s >>> nI j).toBitVec &&& 1#32 = _
    rw [e2]
    apply BitVec.eq_of_getLsbD_eq
    intro i hi
    rw [BitVec.getLsbD_and, BitVec.getLsbD_sshiftRight]
    by_cases h0 : i = 0
    · subst h0
      cases hb : s.toBitVec.getLsbD j <;> simp [hb, hj]
    · cases hb : s.toBitVec.getLsbD j <;> simp [BitVec.getLsbD_one, h0]
  have k1 := key j h
  unfold f_X11_has
  have : decide (((s >>> (nI j &&& (31 : Int32))) &&& (1 : Int32)) = 0) = !s.toBitVec.getLsbD j := by
    cases hb : s.toBitVec.getLsbD j with
    | true =>
      rw [hb] at k1
      refine decide_eq_false (fun z => ?_)
      rw [z] at k1
      exact absurd k1 (by decide)
    | false =>
      rw [hb] at k1
      refine decide_eq_true ?_
      exact Int32.toBitVec.inj k1
  rw [this]
  cases s.toBitVec.getLsbD j <;> rfl
theorem bit_bit {k j : Nat} (h : k < 32) (hj : j < 32) : (f_X11_bit (nI k)).toBitVec.getLsbD j = decide (k = j) := by
  unfold f_X11_bit
  have e : ((1 : Int32) <<< (nI k &&& (31 : Int32))).toBitVec = 1#32 <<< k := (by decide +kernel : ∀ k, k < 32 → ((1 : Int32) <<< (nI k &&& (31 : Int32))).toBitVec = 1#32 <<< k) k h
  rw [e, BitVec.getLsbD_shiftLeft, BitVec.getLsbD_one]
  by_cases hk : k = j
  · subst hk; simp [hj]
  · rw [decide_eq_false hk]
    simp
    omega
def hs (s : Int32) (j : Nat) : Bool := s.toBitVec.getLsbD j
theorem has_hs {s : Int32} {j : Nat} (h : j < 32) : f_X11_has s (nI j) = hs s j := has_bit h
theorem hs_and (a b : Int32) (j : Nat) : hs (a &&& b) j = (hs a j && hs b j) := by
  show (a.toBitVec &&& b.toBitVec).getLsbD j = _
  rw [BitVec.getLsbD_and]; rfl
theorem hs_or (a b : Int32) (j : Nat) : hs (a ||| b) j = (hs a j || hs b j) := by
  show (a.toBitVec ||| b.toBitVec).getLsbD j = _
  rw [BitVec.getLsbD_or]; rfl
theorem hs_not {a : Int32} {j : Nat} (h : j < 32) : hs (a ^^^ (-1 : Int32)) j = !hs a j := by
  show (a.toBitVec ^^^ (BitVec.allOnes 32)).getLsbD j = _
  rw [BitVec.getLsbD_xor, BitVec.getLsbD_allOnes, decide_eq_true h, Bool.xor_true]; rfl
theorem hs_bit {k j : Nat} (h : k < 32) (hj : j < 32) : hs (f_X11_bit (nI k)) j = decide (k = j) := bit_bit h hj
theorem hs_0 (j : Nat) : hs 0 j = false := by
  show (0#32).getLsbD j = false
  exact BitVec.getLsbD_zero
theorem hs_ext {a b : Int32} (h : ∀ j, j < 32 → hs a j = hs b j) : a = b := by
  apply Int32.toBitVec.inj
  exact BitVec.eq_of_getLsbD_eq fun i hi => h i hi
/-- the set of those below 8 for which it is so -/
def setK (c : Nat → Bool) : Nat → Int32
  | 0 => 0
  | k + 1 => bif c k then setK c k ||| f_X11_bit (nI k) else setK c k
def setOf (c : Nat → Bool) : Int32 := setK c 8
theorem hs_setK {c : Nat → Bool} {j : Nat} (hj : j < 32) : ∀ k, k ≤ 32 → hs (setK c k) j = (decide (j < k) && c j) := by
  intro k
  induction k with
  | zero => intro _; rw [show setK c 0 = 0 from rfl, hs_0]; simp
  | succ k ih =>
    intro hk
    have ih := ih (by omega)
    unfold setK
    by_cases hjk : j = k
    · subst hjk
      cases hc : c j
      · show hs (setK c j) j = _
        rw [ih]; simp
      · show hs (setK c j ||| _) j = _
        rw [hs_or, ih, hs_bit (by omega) (by omega)]; simp
    · have e1 : decide (j < k + 1) = decide (j < k) := by
        by_cases h : j < k
        · rw [decide_eq_true h, decide_eq_true (by omega)]
        · rw [decide_eq_false h, decide_eq_false (by omega)]
      rw [e1]
      cases hc : c k
      · exact ih
      · show hs (setK c k ||| _) j = _
        rw [hs_or, ih, hs_bit (by omega) (by omega), decide_eq_false (Ne.symm hjk), Bool.or_false]
theorem hs_set {c : Nat → Bool} {j : Nat} (hj : j < 32) : hs (setOf c) j = (decide (j < 8) && c j) := hs_setK hj 8 (by decide)
theorem hs_set8 {c : Nat → Bool} {j : Nat} (hj : j < 8) : hs (setOf c) j = c j := by rw [hs_set (by omega), decide_eq_true hj, Bool.true_and]
/-- a set of people: no bit from 8 on -/
def S8 (s : Int32) : Prop := ∀ j, 8 ≤ j → j < 32 → hs s j = false
theorem S8.set (c : Nat → Bool) : S8 (setOf c) := fun j h hj => by rw [hs_set hj, decide_eq_false (by omega), Bool.false_and]
theorem S8.ext {a b : Int32} (ha : S8 a) (hb : S8 b) (h : ∀ j, j < 8 → hs a j = hs b j) : a = b := hs_ext fun j hj => by
  by_cases h8 : j < 8
  · exact h j h8
  · rw [ha j (by omega) hj, hb j (by omega) hj]
theorem S8.andl {a b : Int32} (ha : S8 a) : S8 (a &&& b) := fun j h hj => by rw [hs_and, ha j h hj, Bool.false_and]
theorem S8.andr {a b : Int32} (hb : S8 b) : S8 (a &&& b) := fun j h hj => by rw [hs_and, hb j h hj, Bool.and_false]
theorem S8.or {a b : Int32} (ha : S8 a) (hb : S8 b) : S8 (a ||| b) := fun j h hj => by rw [hs_or, ha j h hj, hb j h hj]; rfl
theorem S8.bit {k : Nat} (hk : k < 8) : S8 (f_X11_bit (nI k)) := fun j h hj => by rw [hs_bit (by omega) hj]; exact decide_eq_false (by omega)
theorem S8.zero : S8 0 := fun j _ _ => hs_0 j
theorem setK_congr {c d : Nat → Bool} : ∀ {k : Nat}, (∀ j, j < k → c j = d j) → setK c k = setK d k := by
  intro k
  induction k with
  | zero => intro _; rfl
  | succ k ih => intro h; unfold setK; rw [h k (by omega), ih fun j hj => h j (by omega)]
theorem set_congr {c d : Nat → Bool} (h : ∀ j, j < 8 → c j = d j) : setOf c = setOf d := setK_congr h
theorem set_of {s : Int32} (h : S8 s) : s = setOf (hs s) := S8.ext h (S8.set _) fun j hj => (hs_set8 hj).symm
theorem setK_n {c : Nat → Bool} {n : Nat} (h : ∀ j, n ≤ j → j < 8 → c j = false) : ∀ m, n ≤ m → m ≤ 8 → setK c m = setK c n := by
  intro m
  induction m with
  | zero => intro h1 _; rw [show n = 0 by omega]
  | succ m ih =>
    intro h1 h2
    by_cases hm : n ≤ m
    · rw [← ih hm (by omega)]
      show (bif c m then _ else _) = _
      rw [h m hm (by omega)]
      rfl
    · rw [show n = m + 1 by omega]
