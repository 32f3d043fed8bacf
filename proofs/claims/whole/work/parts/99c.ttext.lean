/-! texts of the tower: steps of both, side by side -/
theorem okw {o : Nat} (h : 400 ≤ o) (h2 : o < 429) (hx : o ≠ 410 ∧ o ≠ 411 ∧ ¬ (424 ≤ o)) : mTxB o = true ∧ okT (mTt o) = true := by
  obtain ⟨j, rfl⟩ : ∃ j, o = 400 + j := ⟨o - 400, by omega⟩
  have := (by decide +kernel : ∀ j, j < 24 → j ≠ 10 → j ≠ 11 → mTxB (400 + j) = true ∧ okT (mTt (400 + j)) = true) j (by omega) (by omega) (by omega)
  exact this
section
variable {L : Nat} {B : Nat → Nat}
theorem sB_le {p : Nat} (hp : p ≤ L) : p ≤ sB L B p ∧ sB L B p ≤ L := ⟨sk_le p, sk_L hp⟩
theorem wL_of {p : Nat} {w : List Nat} (h : isW L B (sB L B p) w = true) : wL L B p = sB L B p + w.length := by
  unfold isW at h
  rw [Bool.and_eq_true] at h
  exact of_decide_eq_true h.1
theorem C_must (hT : txt L B) {X : mM} {a o : Nat} (h : tC X L B a) (ha : a ≤ L) (ho : mTxB o = true) (hw : okT (mTt o) = true) : (isW L B a (mTt o) = true → a + (mTt o).length ≤ L ∧ ∃ X', f_X7_must o X = some (true, X') ∧ tC X' L B (sB L B (a + (mTt o).length)) ∧ fC X X') ∧ (isW L B a (mTt o) = false → f_X7_must o X = some (false, mst X 1 3 (nI a))) := by
  obtain ⟨h1, h2⟩ := C_takes hT h ha ho hw
  constructor
  · intro hi
    obtain ⟨b, X', e1, e2, e3⟩ := h1 hi
    refine ⟨b, X', ?_, e2, e3⟩
    unfold f_X7_must
    rw [gd_t ho, e1, b2_s, cond_true]
  · intro hi
    unfold f_X7_must
    rw [gd_t ho, h2 hi, b2_s, cond_false, h.2.2.1, C_wrong h.2.2.2, b2_s, cond_false]
theorem C_mustSign (hT : txt L B) {X : mM} {a c : Nat} (h : tC X L B a) (ha : a ≤ L) (hc : c < 128) : (sgB L B a c = true → a + 1 ≤ L ∧ ∃ X', f_X7_mustSign (nI c) X = some (true, X') ∧ tC X' L B (sB L B (a + 1)) ∧ fC X X') ∧ (sgB L B a c = false → f_X7_mustSign (nI c) X = some (false, mst X 1 3 (nI a))) := by
  obtain ⟨h1, h2⟩ := C_tsign hT h ha hc
  constructor
  · intro hi
    obtain ⟨b, X', e1, e2, e3⟩ := h1 hi
    refine ⟨b, X', ?_, e2, e3⟩
    unfold f_X7_mustSign
    rw [e1, b2_s, cond_true]
  · intro hi
    unfold f_X7_mustSign
    rw [h2 hi, b2_s, cond_false, h.2.2.1, C_wrong h.2.2.2, b2_s, cond_false]
/-- a word that must come, and a number behind it -/
theorem afB (hT : txt L B) {X Y : mM} {p o : Nat} (hp : p ≤ L) (hX : tC X L B (sB L B p)) (hY : tM Y L B p) (ho : mTxB o = true) (hw : okT (mTt o) = true) {lo hi : Int32} :
  (∃ X1 X2 Y' v p', f_X7_must o X = some (true, X1) ∧ f_X7_number lo hi X1 = some (nI v, X2) ∧ f_X12_after o lo hi Y = some (nI v, Y') ∧ p' ≤ L ∧ tC X2 L B (sB L B p') ∧ tM Y' L B p' ∧ v < 1000 ∧ ¬ nI v < lo ∧ nI v ≤ hi ∧ fC X X2 ∧ fM Y Y') ∨
  (∃ X1 Y' w, f_X7_must o X = some (false, X1) ∧ f_X12_after o lo hi Y = some (-1, Y') ∧ X1 1 3 = nI w ∧ Y' 215 16 = nI w ∧ w ≤ L ∧ fC X X1 ∧ fM Y Y') ∨
  (∃ X1 X2 Y' w, f_X7_must o X = some (true, X1) ∧ f_X7_number lo hi X1 = some (-1, X2) ∧ f_X12_after o lo hi Y = some (-1, Y') ∧ X2 1 3 = nI w ∧ Y' 215 16 = nI w ∧ w ≤ L ∧ fC X X2 ∧ fM Y Y') := by
  obtain ⟨s1, s2⟩ := sB_le (B := B) hp
  obtain ⟨m1, m2⟩ := C_must hT hX s2 ho hw
  obtain ⟨Y1, y1, y2, y3, y4⟩ := M_letters hT hY hp
  have yw := M_isWord hT hp y2 y3 ho hw
  cases c : isW L B (sB L B p) (mTt o)
  · right; left
    refine ⟨_, Y1, sB L B p, m2 c, ?_, mst_oo _ _ _ _, y3, s2, fC.st (by decide), y4⟩
    unfold f_X12_after
    rw [gd_t ho, y1, b2_s, yw, b1_s, c, cond_false]
  · obtain ⟨l1, X1, x1, x2, x3⟩ := m1 c
    rw [wL_of c] at y2
    obtain ⟨Y2, n1, n2, n3, n4⟩ := M_number hT y2 l1 (lo := lo) (hi := hi)
    obtain ⟨t1, t2⟩ := sB_le (B := B) l1
    obtain ⟨k1, k2⟩ := C_number hT x2 t2 (lo := lo) (hi := hi)
    have haf : f_X12_after o lo hi Y = some (bif nOk L B (sB L B (sB L B p + (mTt o).length)) lo hi then nI (dv B (sB L B (sB L B p + (mTt o).length)) (nD L B (sB L B (sB L B p + (mTt o).length)))) else -1, Y2) := by
      unfold f_X12_after
      rw [gd_t ho, y1, b2_s, yw, b1_s, c, cond_true, n1, b2_s]
    cases c2 : nOk L B (sB L B (sB L B p + (mTt o).length)) lo hi
    · obtain ⟨X2, z1, z2, z3⟩ := k2 c2
      right; right
      exact ⟨X1, X2, Y2, _, x1, z1, by rw [haf, c2]; rfl, z2, n3, t2, x3.tr z3, y4.tr n4⟩
    · obtain ⟨X2, z1, z2, z3⟩ := k1 c2
      left
      have hb := nD_L (B := B) t2
      have hdv : dv B (sB L B (sB L B p + (mTt o).length)) (nD L B (sB L B (sB L B p + (mTt o).length))) < 1000 ∧ ¬ nI (dv B (sB L B (sB L B p + (mTt o).length)) (nD L B (sB L B (sB L B p + (mTt o).length)))) < lo ∧ nI (dv B (sB L B (sB L B p + (mTt o).length)) (nD L B (sB L B (sB L B p + (mTt o).length)))) ≤ hi := by
        unfold nOk at c2
        rw [Bool.and_eq_true, Bool.and_eq_true, Bool.and_eq_true, ← dn] at c2
        have h3 := of_decide_eq_true c2.2.1
        have := dv_le (L := L) (B := B) (a := sB L B (sB L B p + (mTt o).length)) _ (Nat.le_refl _)
        have h10 : 10 ^ (nD L B (sB L B (sB L B p + (mTt o).length))) ≤ 10 ^ 3 := Nat.pow_le_pow_right (by decide) h3
        exact ⟨by omega, of_decide_eq_true c2.2.2.1, of_decide_eq_true c2.2.2.2⟩
      exact ⟨X1, X2, Y2, _, _, x1, z1, by rw [haf, c2]; rfl, hb, z2, n2, hdv.1, hdv.2.1, hdv.2.2, x3.tr z3, y4.tr n4⟩
/-- a number that must come -/
theorem nmB (hT : txt L B) {X Y : mM} {p : Nat} (hp : p ≤ L) (hX : tC X L B (sB L B p)) (hY : tM Y L B p) {lo hi : Int32} :
  (∃ X' Y' v p', f_X7_number lo hi X = some (nI v, X') ∧ f_X12_number lo hi Y = some (nI v, Y') ∧ p + 1 ≤ p' ∧ p' ≤ L ∧ tC X' L B (sB L B p') ∧ tM Y' L B p' ∧ Y' 215 16 = nI (sB L B p) ∧ v < 1000 ∧ ¬ nI v < lo ∧ nI v ≤ hi ∧ fC X X' ∧ fM Y Y') ∨
  (∃ X' Y', f_X7_number lo hi X = some (-1, X') ∧ f_X12_number lo hi Y = some (-1, Y') ∧ X' 1 3 = nI (sB L B p) ∧ Y' 215 16 = nI (sB L B p) ∧ fC X X' ∧ fM Y Y') := by
  obtain ⟨t1, t2⟩ := sB_le (B := B) hp
  obtain ⟨Y2, n1, n2, n3, n4⟩ := M_number hT hY hp (lo := lo) (hi := hi)
  obtain ⟨k1, k2⟩ := C_number hT hX t2 (lo := lo) (hi := hi)
  cases c2 : nOk L B (sB L B p) lo hi
  · obtain ⟨X2, z1, z2, z3⟩ := k2 c2
    right
    exact ⟨X2, Y2, z1, by rw [n1, c2]; rfl, z2, n3, z3, n4⟩
  · obtain ⟨X2, z1, z2, z3⟩ := k1 c2
    left
    have hb := nD_L (B := B) t2
    have c3 := c2
    unfold nOk at c3
    rw [Bool.and_eq_true, Bool.and_eq_true, Bool.and_eq_true, ← dn] at c3
    have h1 := of_decide_eq_true c3.1
    have h3 := of_decide_eq_true c3.2.1
    have := dv_le (L := L) (B := B) (a := sB L B p) _ (Nat.le_refl _)
    have h10 : 10 ^ (nD L B (sB L B p)) ≤ 10 ^ 3 := Nat.pow_le_pow_right (by decide) h3
    exact ⟨X2, Y2, _, _, z1, by rw [n1, c2]; rfl, by omega, hb, z2, n2, n3, by omega, of_decide_eq_true c3.2.2.1, of_decide_eq_true c3.2.2.2, z3, n4⟩
/-- those on whom one stands -/
def lB (B : Nat → Nat) (a k : Nat) : Nat := B (a + k) - 97
def okS (S : Int32) (b : Nat → Nat) : Nat → Bool
  | 0 => true
  | k + 1 => okS S b k && (decide (b k < 8) && (!hs (tdS b k) (b k) && hs S (b k)))
theorem okS_s (S : Int32) (b : Nat → Nat) (k : Nat) : okS S b (k + 1) = (okS S b k && (decide (b k < 8) && (!hs (tdS b k) (b k) && hs S (b k)))) := rfl
theorem okS_lt {S : Int32} {b : Nat → Nat} {k : Nat} : ∀ {m : Nat}, k ≤ m → okS S b m = true → okS S b k = true := by
  intro m
  induction m with
  | zero => intro h1 h; rw [show k = 0 by omega]; exact h
  | succ m ih =>
    intro h1 h
    by_cases hk : k = m + 1
    · rw [hk]; exact h
    · rw [okS_s, Bool.and_eq_true] at h
      exact ih (by omega) h.1
theorem okS_first {S : Int32} {b : Nat → Nat} : ∀ {m : Nat}, okS S b m = false → ∃ k, k < m ∧ okS S b k = true ∧ okS S b (k + 1) = false := by
  intro m
  induction m with
  | zero => intro h; cases h
  | succ m ih =>
    intro h
    cases c : okS S b m
    · obtain ⟨k, h1, h2, h3⟩ := ih c
      exact ⟨k, by omega, h2, h3⟩
    · exact ⟨m, by omega, c, h⟩
theorem okS_b {S : Int32} {b : Nat → Nat} {k m : Nat} (hk : k < m) (h : okS S b m = true) : b k < 8 ∧ hs S (b k) = true := by
  have := okS_lt (show k + 1 ≤ m from hk) h
  rw [okS_s, Bool.and_eq_true, Bool.and_eq_true, Bool.and_eq_true] at this
  exact ⟨of_decide_eq_true this.2.1, this.2.2.2⟩
theorem okS_S {S : Int32} {b : Nat → Nat} : ∀ {m : Nat}, okS S b m = true → S8 (tdS b m) ∧ ∀ j, j < 8 → hs (tdS b m) j = true → hs S j = true := by
  intro m
  induction m with
  | zero => intro _; exact ⟨S8.zero, fun j _ h => by rw [show hs (tdS b 0) j = false from hs_0 j] at h; cases h⟩
  | succ m ih =>
    intro h
    obtain ⟨b1, b2⟩ := okS_b (Nat.lt_succ_self m) h
    rw [okS_s, Bool.and_eq_true] at h
    obtain ⟨i1, i2⟩ := ih h.1
    refine ⟨S8.or i1 (S8.bit b1), fun j hj hh => ?_⟩
    rw [show tdS b (m + 1) = tdS b m ||| f_X11_bit (nI (b m)) from rfl, hs_or, Bool.or_eq_true] at hh
    rcases hh with hh | hh
    · exact i2 j hj hh
    · rw [hs_bit (by omega) (by omega)] at hh
      rw [← of_decide_eq_true hh]
      exact b2
theorem tdS_ne {b : Nat → Nat} {m : Nat} (h0 : 0 < m) (h : b 0 < 8) : tdS b m ≠ 0 := fun z => by
  have : ∀ m, hs (tdS b (m + 1)) (b 0) = true := by
    intro m
    induction m with
    | zero =>
      show hs (tdS b 0 ||| f_X11_bit (nI (b 0))) (b 0) = true
      rw [hs_or, hs_bit (by omega) (by omega), decide_eq_true rfl, Bool.or_true]
    | succ m ih =>
      show hs (tdS b (m + 1) ||| f_X11_bit (nI (b (m + 1)))) (b 0) = true
      rw [hs_or, ih]
      rfl
  have := this (m - 1)
  rw [show m - 1 + 1 = m by omega, z, hs_0] at this
  cases this
theorem lt_97 {b : Nat} (h : 97 ≤ b) : nI b - (97 : Int32) = nI (b - 97) := pk_sub (b := 97) h
theorem C_isLet (hT : txt L B) {X : mM} {a : Nat} (h : tC X L B a) {i : Nat} (hi : i < 2 ^ 30) : f_X7_isLetter (nI i) X = some (decide (i < L) && cL B i) := by
  unfold f_X7_isLetter cL
  rw [C_by hT h hi, b1_s]
  by_cases e : i < L
  · have hb := hT.2 i e
    rw [if_pos e, decide_eq_true e, Bool.true_and, show decide (nI (B i) < (97 : Int32)) = decide (B i < 97) from i_lt (b := 97) (by omega) (by decide), show decide ((122 : Int32) < nI (B i)) = decide (122 < B i) from i_lt (a := 122) (by decide) (by omega)]
    by_cases c1 : 97 ≤ B i
    · rw [decide_eq_false (show ¬ B i < 97 by omega), cond_false, decide_eq_true c1, Bool.true_and]
      by_cases c2 : B i ≤ 122
      · rw [decide_eq_false (show ¬ 122 < B i by omega), cond_false, decide_eq_true c2]
      · rw [decide_eq_true (show 122 < B i by omega), cond_true, decide_eq_false c2]
    · rw [decide_eq_true (show B i < 97 by omega), cond_true, decide_eq_false c1, Bool.false_and]
  · rw [if_neg e, decide_eq_false e, Bool.false_and]
    rfl
theorem C_letters (hT : txt L B) {X : mM} {a : Nat} (h : tC X L B a) (ha : a ≤ L) {S : Int32} : ((decide (0 < sk L (cL B) a - a) && okS S (lB B a) (sk L (cL B) a - a)) = true → ∃ X', f_X7_letters S X = some (tdS (lB B a) (sk L (cL B) a - a), X') ∧ tC X' L B (sB L B (sk L (cL B) a)) ∧ fC X X') ∧ ((decide (0 < sk L (cL B) a - a) && okS S (lB B a) (sk L (cL B) a - a)) = false → ∃ X', f_X7_letters S X = some (0, X') ∧ X' 1 3 = nI a ∧ fC X X') := by
  have hL := hT.1
  have e1 := sk_le (L := L) (c := cL B) a
  have e2 := sk_L (L := L) (c := cL B) ha
  obtain ⟨m, hm⟩ : ∃ m, m = sk L (cL B) a - a := ⟨_, rfl⟩
  rw [← hm]
  have hin : ∀ k, k < m → a + k < L ∧ 97 ≤ B (a + k) ∧ B (a + k) ≤ 122 ∧ cL B (a + k) = true := fun k hk => by
    obtain ⟨g1, g2⟩ := sk_in (L := L) (c := cL B) (p := a) (i := a + k) (by omega) (by omega)
    have g3 := g2
    unfold cL at g3
    rw [Bool.and_eq_true] at g3
    exact ⟨g1, of_decide_eq_true g3.1, of_decide_eq_true g3.2, g2⟩
  have one : ∀ k, k < m → okS S (lB B a) k = true → f_X7_letters_8 S (tdS (lB B a) k) (nI (a + k)) (nI (a + k)) X = bif okS S (lB B a) (k + 1) then some (.inr (tdS (lB B a) (k + 1), nI (a + (k + 1)), nI (a + (k + 1)))) else some (.inl (0, mst X 1 3 (nI a))) := fun k hk hok => by
    obtain ⟨g1, g2, g3, g4⟩ := hin k hk
    have h32 : f_X7_letters_32 X = some (0, mst X 1 3 (nI a)) := by
      unfold f_X7_letters_32
      rw [h.2.2.1, C_wrong h.2.2.2, b2_s]
    unfold f_X7_letters_8
    rw [show decide ((400 : Int32) ≤ nI (a + k)) = false from i_lit (a := 400) (by decide) (by omega), cond_false, C_isLet hT h (by omega), b1_s, decide_eq_true g1, g4, Bool.true_and, cond_true, C_by hT h (by omega), b1_s, if_pos g1, lt_97 g2, h32, b1_s, i_1, okS_s, hok, Bool.true_and]
    show (bif decide ((8 : Int32) ≤ nI (lB B a k)) then _ else bif f_X11_has (tdS (lB B a) k) (nI (lB B a k)) then _ else bif f_X11_has S (nI (lB B a k)) then _ else _) = _
    have hb : lB B a k < 26 := by show B (a + k) - 97 < 26; omega
    rw [show decide ((8 : Int32) ≤ nI (lB B a k)) = decide (8 ≤ lB B a k) from i_le (a := 8) (by decide) (by omega)]
    by_cases c8 : lB B a k < 8
    · rw [decide_eq_false (show ¬ 8 ≤ lB B a k by omega), cond_false, decide_eq_true c8, Bool.true_and, has_hs (by omega), has_hs (by omega)]
      cases hs (tdS (lB B a) k) (lB B a k)
      · rw [cond_false, Bool.not_false, Bool.true_and]
        cases hs S (lB B a k) <;> rfl
      · rw [cond_true, Bool.not_true, Bool.false_and, cond_false]
    · rw [decide_eq_true (show 8 ≤ lB B a k by omega), cond_true, decide_eq_false c8, Bool.false_and, cond_false]
  have last : okS S (lB B a) m = true → ∀ r, f_X7_letters_50 (tdS (lB B a) m) (nI (a + m)) X = some r → f_X7_letters_8 S (tdS (lB B a) m) (nI (a + m)) (nI (a + m)) X = some (.inl r) := fun _ r hr => by
    unfold f_X7_letters_8
    rw [hr, b1_s]
    by_cases h400 : 400 ≤ a + m
    · rw [show decide ((400 : Int32) ≤ nI (a + m)) = true from (i_le (a := 400) (by decide) (by omega)).trans (decide_eq_true h400), cond_true]
    · rw [show decide ((400 : Int32) ≤ nI (a + m)) = false from (i_le (a := 400) (by decide) (by omega)).trans (decide_eq_false h400), cond_false, C_isLet hT h (by omega), b1_s]
      have : (decide (a + m < L) && cL B (a + m)) = false := by
        by_cases e : a + m < L
        · have ea : a + m = sk L (cL B) a := by omega
          rw [ea] at e ⊢
          rw [sk_at e, Bool.and_false]
        · rw [decide_eq_false e, Bool.false_and]
      rw [this, cond_false]
  have h50 : okS S (lB B a) m = true → 0 < m → f_X7_letters_50 (tdS (lB B a) m) (nI (a + m)) X = b2 (f_X7_moveTo (nI (a + m)) X) (fun v2 M2 => some (tdS (lB B a) m, M2)) := fun hok h0 => by
    unfold f_X7_letters_50 f_X7_letters_57
    rw [decide_eq_true (tdS_ne h0 (okS_b h0 hok).1), cond_true]
  unfold f_X7_letters f_X7_letters_l8
  rw [h.2.2.1]
  constructor
  · intro hh
    rw [Bool.and_eq_true] at hh
    have h0 := of_decide_eq_true hh.1
    obtain ⟨X', m1, m2, m3⟩ := C_move hT h (p := a + m) (by omega)
    refine ⟨X', ?_, by rw [show sk L (cL B) a = a + m by omega]; exact m2, m3⟩
    refine wh_ne (fun k => (tdS (lB B a) k, nI (a + k), nI (a + k))) m _ (by omega) rfl (fun k hk => ?_) ?_
    · show f_X7_letters_8 S (tdS (lB B a) k) (nI (a + k)) (nI (a + k)) X = _
      rw [one k hk (okS_lt (by omega) hh.2), okS_lt (show k + 1 ≤ m by omega) hh.2, cond_true]
    · refine last hh.2 _ ?_
      rw [h50 hh.2 h0, m1, b2_s]
  · intro hh
    by_cases h0 : 0 < m
    · rw [decide_eq_true h0, Bool.true_and] at hh
      obtain ⟨k, k1, k2, k3⟩ := okS_first hh
      refine ⟨_, ?_, mst_oo _ _ _ _, fC.st (by decide)⟩
      refine wh_ne (fun k => (tdS (lB B a) k, nI (a + k), nI (a + k))) k _ (by omega) rfl (fun j hj => ?_) ?_
      · show f_X7_letters_8 S (tdS (lB B a) j) (nI (a + j)) (nI (a + j)) X = _
        rw [one j (by omega) (okS_lt (by omega) k2), okS_lt (show j + 1 ≤ k by omega) k2, cond_true]
      · show f_X7_letters_8 S (tdS (lB B a) k) (nI (a + k)) (nI (a + k)) X = _
        rw [one k k1 k2, k3, cond_false]
    · have m0 : m = 0 := by omega
      rw [m0] at last
      have hX1 : fC X (mst X 1 3 (nI a)) := fC.st (by decide)
      -- the tape with a fault, moved on
      have hmv : ∃ X', f_X7_moveTo (nI a) (mst X 1 3 (nI a)) = some ((), X') ∧ X' 1 3 = nI a ∧ fC (mst X 1 3 (nI a)) X' := by
        refine ⟨mst (mst X 1 3 (nI a)) 1 2 (nI (sB L B a)), ?_, (mst_nk (by decide)).trans (mst_oo _ _ _ _), fC.st (by decide)⟩
        exact C_move3 hT (X := mst X 1 3 (nI a)) ((mst_nk (by decide)).trans h.1) (fun i hi => by rw [mst_no (by decide)]; exact h.2.1 i hi) ha
      obtain ⟨X', m1, m2, m3⟩ := hmv
      refine ⟨X', ?_, m2, hX1.tr m3⟩
      refine wh_1 ?_
      show f_X7_letters_8 S 0 (nI a) (nI a) X = _
      have := last rfl (0, X') (by
        unfold f_X7_letters_50 f_X7_letters_57
        rw [show tdS (lB B a) 0 = 0 from rfl, show decide (¬ (0 : Int32) = 0) = false from rfl, cond_false, h.2.2.1, C_wrong h.2.2.2, b2_s, Nat.add_zero, m1, b2_s])
      rw [Nat.add_zero] at this
      exact this
end
