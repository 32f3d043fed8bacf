/-! texts of the tower: the lines, by both -/
section
variable {L : Nat} {B : Nat → Nat} {n : Nat} {W : Nat → Int32}
theorem lB_sg (hT : txt L B) {a k : Nat} (h : a + k < L) (h1 : 97 ≤ B (a + k)) (h2 : B (a + k) ≤ 122) : sgn8 (B (a + k)) - (97 : Int32) = nI (lB B a k) := by
  rw [sg_lo (by omega), lt_97 h1]
  rfl
theorem M_lettersOf (hT : txt L B) {Y : mM} {p r : Nat} (hp : p ≤ L) (hY : tM Y L B p) (hn : Y 216 0 = nI n) (h8 : n ≤ 8) : ∃ Y', f_X12_lettersOf (nI r) Y = some (bif decide (0 < wL L B p - sB L B p) && okS (rgS n (Y 216) (nI r)) (lB B (sB L B p)) (wL L B p - sB L B p) then tdS (lB B (sB L B p)) (wL L B p - sB L B p) else -1, Y') ∧ tM Y' L B (wL L B p) ∧ Y' 215 16 = nI (sB L B p) ∧ fM Y Y' := by
  have hL := hT.1
  obtain ⟨Y1, y1, y2, y3, y4⟩ := M_letters hT hY hp
  obtain ⟨q1, q2⟩ := wL_le (B := B) hp
  refine ⟨Y1, ?_, y2, y3, y4⟩
  have e216 : Y1 216 = Y 216 := y4.1 216 (by decide)
  have hn' : Y1 216 0 = nI n := by rw [e216]; exact hn
  generalize hA : sB L B p = a at q1 y3 ⊢
  obtain ⟨m, hm⟩ : ∃ m, m = wL L B p - a := ⟨_, rfl⟩
  have hwm : wL L B p = a + m := by omega
  rw [← hm]
  rw [hwm] at y2 q2
  generalize hS : rgS n (Y 216) (nI r) = S
  have hin : ∀ k, k < m → a + k < L ∧ 97 ≤ B (a + k) ∧ B (a + k) ≤ 122 := fun k hk => by
    have hw2 : sk L (cL B) a = a + m := by rw [← hwm, ← hA]; rfl
    obtain ⟨g1, g2⟩ := sk_in (L := L) (c := cL B) (p := a) (i := a + k) (by omega) (by omega)
    unfold cL at g2
    rw [Bool.and_eq_true] at g2
    exact ⟨g1, of_decide_eq_true g2.1, of_decide_eq_true g2.2⟩
  have d59 : ∀ v : Int32, f_X12_lettersOf_59 v 0 Y1 = some (-1, Y1) := fun v => rfl
  have one : ∀ k, k < m → okS S (lB B a) k = true → f_X12_lettersOf_16 (nI r) (tdS (lB B a) k) 1 (nI (a + k)) Y1 = bif okS S (lB B a) (k + 1) then some (.inr (tdS (lB B a) (k + 1), 1, nI (a + (k + 1)))) else some (.inr (tdS (lB B a) k ||| 0, 0, nI (a + (k + 1)))) := fun k hk hok => by
    obtain ⟨g1, g2, g3⟩ := hin k hk
    have hb : lB B a k < 26 := by show B (a + k) - 97 < 26; omega
    have f45 : ∀ x : Int32, f_X12_lettersOf_45 (nI r) (tdS (lB B a) k) (nI (a + k)) x Y1 = some (.inr (tdS (lB B a) k ||| 0, 0, nI (a + (k + 1)))) := fun x => by
      unfold f_X12_lettersOf_45 f_X12_lettersOf_46
      rw [cond_false, i_1]
      rfl
    have f46 : f_X12_lettersOf_46 (nI r) (tdS (lB B a) k) (nI (a + k)) (nI (lB B a k)) true Y1 = some (.inr (tdS (lB B a) (k + 1), 1, nI (a + (k + 1)))) := by
      unfold f_X12_lettersOf_46
      rw [cond_true, bitE, i_1]
      rfl
    unfold f_X12_lettersOf_16
    rw [y2.2.2, i_ge (by omega) (by omega), decide_eq_true (show a + k < a + m by omega), Bool.not_true, cond_false, show decide ((1 : Int32) = 0) = false from rfl, cond_false, gd_t (i_in (by omega) (by decide)), i_ix (by omega), y2.2.1 _ g1, lB_sg hT g1 g2 g3, m_ppl hn', b1_s, f45, i_ge (by omega) (by omega), okS_s, hok, Bool.true_and]
    by_cases cn : lB B a k < n
    · have h8' : lB B a k < 8 := by omega
      rw [decide_eq_true cn, Bool.not_true, cond_false, decide_eq_true h8', Bool.true_and, mhas_hs (by omega), show (5 : Int32) = nI 5 from rfl, m_of h8' (by decide), b1_s, e216, dn, f46]
      have eS : hs S (lB B a k) = decide (pv (Y 216) (lB B a k) 5 = nI r) := by
        rw [← hS]
        unfold rgS
        rw [hs_set8 h8', decide_eq_true cn, Bool.true_and]
      rw [eS]
      cases hs (tdS (lB B a) k) (lB B a k)
      · rw [cond_false, Bool.not_false, Bool.true_and]
        cases decide (pv (Y 216) (lB B a k) 5 = nI r) <;> rfl
      · rw [cond_true, Bool.not_true, Bool.false_and, cond_false]
    · rw [decide_eq_false cn, Bool.not_false, cond_true]
      have : (decide (lB B a k < 8) && (!hs (tdS (lB B a) k) (lB B a k) && hs S (lB B a k))) = false := by
        by_cases c8 : lB B a k < 8
        · have : hs S (lB B a k) = false := by
            rw [← hS]
            unfold rgS
            rw [hs_set8 c8, decide_eq_false cn, Bool.false_and]
          rw [this, Bool.and_false, Bool.and_false]
        · rw [decide_eq_false c8, Bool.false_and]
      rw [this, cond_false]
  unfold f_X12_lettersOf
  rw [y1, b2_s, show Y1 215 14 = nI (a + m) from y2.2.2, y3, i_le (by omega) (by omega)]
  by_cases h0 : 0 < m
  · rw [decide_eq_false (show ¬ a + m ≤ a by omega), cond_false, decide_eq_true h0, Bool.true_and]
    unfold f_X12_lettersOf_l16
    cases c : okS S (lB B a) m
    · obtain ⟨k, k1, k2, k3⟩ := okS_first c
      rw [cond_false]
      refine wh_ne (fun j => if j ≤ k then (tdS (lB B a) j, 1, nI (a + j)) else (tdS (lB B a) k ||| 0, 0, nI (a + (k + 1)))) (k + 1) _ (by omega) (by rw [if_pos (Nat.zero_le k)]; rfl) (fun j hj => ?_) ?_
      · rw [if_pos (by omega)]
        show f_X12_lettersOf_16 (nI r) (tdS (lB B a) j) 1 (nI (a + j)) Y1 = _
        by_cases hjk : j = k
        · subst hjk
          rw [if_neg (by omega), one j k1 k2, k3, cond_false]
        · rw [if_pos (by omega), one j (by omega) (okS_lt (by omega) k2), okS_lt (show j + 1 ≤ k by omega) k2, cond_true]
      · rw [if_neg (by omega)]
        show f_X12_lettersOf_16 (nI r) (tdS (lB B a) k ||| 0) 0 (nI (a + (k + 1))) Y1 = _
        unfold f_X12_lettersOf_16
        rw [d59, b1_s]
        cases decide (Y1 215 14 ≤ nI (a + (k + 1))) <;> rfl
    · rw [cond_true]
      refine wh_ne (fun j => (tdS (lB B a) j, 1, nI (a + j))) m _ (by omega) rfl (fun j hj => ?_) ?_
      · show f_X12_lettersOf_16 (nI r) (tdS (lB B a) j) 1 (nI (a + j)) Y1 = _
        rw [one j hj (okS_lt (by omega) c), okS_lt (show j + 1 ≤ m by omega) c, cond_true]
      · show f_X12_lettersOf_16 (nI r) (tdS (lB B a) m) 1 (nI (a + m)) Y1 = _
        unfold f_X12_lettersOf_16
        rw [y2.2.2, i_lee, cond_true]
        rfl
  · rw [decide_eq_true (show a + m ≤ a by omega), cond_true, decide_eq_false h0, Bool.false_and, cond_false]
    unfold f_X12_lettersOf_l16
    refine wh_1 ?_
    show f_X12_lettersOf_16 (nI r) 0 0 (nI a) Y1 = _
    unfold f_X12_lettersOf_16
    rw [d59, b1_s]
    cases decide (Y1 215 14 ≤ nI a) <;> rfl
/-- a new one -/
def wNw (n : Nat) (W : Nat → Int32) (v w : Int32) : Nat → Int32 := upd (upd (upd (upd (upd (upd (upd (upd W (8 + 7 * n + 0) v) (8 + 7 * n + 1) w) (8 + 7 * n + 2) w) (8 + 7 * n + 3) 0) (8 + 7 * n + 4) 0) (8 + 7 * n + 5) (-1)) (8 + 7 * n + 6) 0) 0 (nI (n + 1))
theorem wN_o {v w : Int32} {k : Nat} (h : k ≠ 0) (h2 : k < 8 + 7 * n ∨ 8 + 7 * n + 7 ≤ k) : wNw n W v w k = W k := by
  unfold wNw
  rw [upd_ne h, upd_ne (by omega), upd_ne (by omega), upd_ne (by omega), upd_ne (by omega), upd_ne (by omega), upd_ne (by omega), upd_ne (by omega)]
theorem wN_p {v w : Int32} {p c : Nat} (hc : c < 7) (h : p ≠ n) : pv (wNw n W v w) p c = pv W p c := by
  unfold pv
  exact wN_o (by omega) (by omega)
theorem wN_n {v w : Int32} : pv (wNw n W v w) n 0 = v ∧ pv (wNw n W v w) n 1 = w ∧ pv (wNw n W v w) n 2 = w ∧ pv (wNw n W v w) n 3 = 0 ∧ pv (wNw n W v w) n 4 = 0 ∧ pv (wNw n W v w) n 5 = -1 ∧ pv (wNw n W v w) n 6 = 0 := by
  unfold pv wNw
  refine ⟨?_, ?_, ?_, ?_, ?_, ?_, ?_⟩
  · rw [upd_ne (by omega), upd_ne (by omega), upd_ne (by omega), upd_ne (by omega), upd_ne (by omega), upd_ne (by omega), upd_ne (by omega), upd_at]
  · rw [upd_ne (by omega), upd_ne (by omega), upd_ne (by omega), upd_ne (by omega), upd_ne (by omega), upd_ne (by omega), upd_at]
  · rw [upd_ne (by omega), upd_ne (by omega), upd_ne (by omega), upd_ne (by omega), upd_ne (by omega), upd_at]
  · rw [upd_ne (by omega), upd_ne (by omega), upd_ne (by omega), upd_ne (by omega), upd_at]
  · rw [upd_ne (by omega), upd_ne (by omega), upd_ne (by omega), upd_at]
  · rw [upd_ne (by omega), upd_ne (by omega), upd_at]
  · rw [upd_ne (by omega), upd_at]
theorem wN_up {v w : Int32} : ∀ p, upB (wNw n W v w) p = if p = n then false else upB W p := fun p => by
  unfold upB
  by_cases h : p = n
  · subst h
    rw [wN_n.2.2.2.2.2.1, if_pos rfl]
    rfl
  · rw [wN_p (by decide) h, if_neg h]
theorem wN_sl {v w : Int32} : ∀ p, slB (wNw n W v w) p = if p = n then false else slB W p := fun p => by
  unfold slB
  by_cases h : p = n
  · subst h
    rw [wN_n.2.2.2.1, if_pos rfl]
    rfl
  · rw [wN_p (by decide) h, if_neg h]
theorem WF.nw (hw : WF n W) (hn : n < 8) {x y : Nat} (h1 : 1 ≤ x) (h2 : x ≤ 99) (h3 : y ≤ 999) : WF (n + 1) (wNw n W (nI x) (nI y)) := by
  obtain ⟨a0, a1, a2, a3, a4, a5, a6, a7⟩ := hw
  have eo : ∀ k, k ≠ 0 → k < 8 → wNw n W (nI x) (nI y) k = W k := fun k hk hk' => wN_o hk (by omega)
  refine ⟨upd_at _ _ _, by omega, fun p hp => ?_, fun p hp => ?_, by rw [eo 1 (by decide) (by decide)]; exact a4, by rw [eo 3 (by decide) (by decide)]; exact a5, by rw [eo 4 (by decide) (by decide)]; exact a6, by rw [eo 5 (by decide) (by decide)]; exact a7⟩
  · by_cases h : p = n
    · subst h
      obtain ⟨-, -, -, g3, -, g5, g6⟩ := wN_n (n := p) (W := W) (v := nI x) (w := nI y)
      rw [g3, g5, g6]
      exact ⟨Or.inl rfl, Or.inl rfl, S8.zero, fun _ => rfl, fun q _ hq => by rw [hs_0] at hq; cases hq⟩
    · obtain ⟨b1, b2, b3, b4, b5⟩ := a2 p (by omega)
      rw [wN_p (by decide) h, wN_p (by decide) h, wN_p (by decide) h]
      refine ⟨b1, b2, b3, b4, fun q hq hh => ?_⟩
      obtain ⟨c1, c2, c3⟩ := b5 q hq hh
      rw [wN_p (by decide) (by omega), wN_up, if_neg (by omega)]
      exact ⟨by omega, c2, c3⟩
  · by_cases h : p = n
    · subst h
      obtain ⟨g0, g1, g2, -, g4, -, -⟩ := wN_n (n := p) (W := W) (v := nI x) (w := nI y)
      rw [g0, g1, g2, g4]
      exact ⟨⟨x, h1, h2, rfl⟩, ⟨y, h3, rfl⟩, ⟨y, h3, rfl⟩, ⟨0, by decide, rfl⟩⟩
    · rw [wN_p (by decide) h, wN_p (by decide) h, wN_p (by decide) h, wN_p (by decide) h]
      exact a3 p (by omega)
/-- the class's new one -/
def addC (o n : Nat) (X : mM) (v w : Int32) : mM := mst (mst (mst (mst X (o + 1) n v) (o + 2) n w) (o + 3) n w) o 0 (nI (n + 1))
theorem C_addP {o : Nat} {X : mM} (ho : mTwB o = true) (h0 : X o 0 = nI n) (hn : n < 8) {v w : Int32} : f_X9_addPerson o v w X = some ((), addC o n X v w) := by
  unfold f_X9_addPerson addC
  rw [gd_t ho, h0, decide_eq_false (nI_pos (by omega)), cond_false, i_8 hn, cond_false, gd_t (i_in hn i_28), wr_e, i_ix (by omega), mst_no (show o ≠ o + 1 by omega), h0, gd_t (i_in hn i_28), wr_e, i_ix (by omega), mst_no (show o ≠ o + 2 by omega), mst_no (show o ≠ o + 1 by omega), h0, gd_t (i_in hn i_28), wr_e, i_ix (by omega), wr_e, mst_no (show o ≠ o + 3 by omega), mst_no (show o ≠ o + 2 by omega), mst_no (show o ≠ o + 1 by omega), h0, i_1]
theorem TR.nw {o : Nat} {X : mM} (h : TR n W X o) (hn : n < 8) {v w : Int32} : TR (n + 1) (wNw n W v w) (addC o n X v w) o := by
  obtain ⟨a0, a1, a2, a3, a4, a5, a6, a7, a8, a9, x, c, b1, b2, b3, b4, b5, b6⟩ := h
  have e0 : ∀ k, k ≠ 0 → addC o n X v w o k = X o k := fun k hk => by
    unfold addC
    rw [mst_nk hk, mst_no (by omega), mst_no (by omega), mst_no (by omega)]
  have ez : ∀ z, z ≠ o → z ≠ o + 1 → z ≠ o + 2 → z ≠ o + 3 → addC o n X v w z = X z := fun z z0 z1 z2 z3 => by
    unfold addC
    rw [mst_no z0, mst_no z3, mst_no z2, mst_no z1]
  have r1 : ∀ k, addC o n X v w (o + 1) k = if k = n then v else X (o + 1) k := fun k => by
    unfold addC
    rw [mst_no (by omega), mst_no (by omega), mst_no (by omega)]
    by_cases h : k = n
    · rw [if_pos h, h, mst_oo]
    · rw [if_neg h, mst_nk h]
  have r2 : ∀ k, addC o n X v w (o + 2) k = if k = n then w else X (o + 2) k := fun k => by
    unfold addC
    rw [mst_no (by omega), mst_no (by omega)]
    by_cases h : k = n
    · rw [if_pos h, h, mst_oo]
    · rw [if_neg h, mst_nk h, mst_no (by omega)]
  have r3 : ∀ k, addC o n X v w (o + 3) k = if k = n then w else X (o + 3) k := fun k => by
    unfold addC
    rw [mst_no (by omega)]
    by_cases h : k = n
    · rw [if_pos h, h, mst_oo]
    · rw [if_neg h, mst_nk h, mst_no (by omega), mst_no (by omega)]
  have eo : ∀ k, k ≠ 0 → k < 8 → wNw n W v w k = W k := fun k hk hk' => wN_o hk (by omega)
  refine ⟨mst_oo _ _ _ _, ?_, ?_, by rw [e0 3 (by decide), eo 3 (by decide) (by decide)]; exact a3, by rw [e0 4 (by decide), eo 4 (by decide) (by decide)]; exact a4, by rw [e0 5 (by decide), eo 5 (by decide) (by decide)]; exact a5, by rw [e0 6 (by decide), eo 7 (by decide) (by decide)]; exact a6, by rw [e0 7 (by decide), eo 1 (by decide) (by decide)]; exact a7, fun p hp => ?_, fun p hp hp8 => ?_, x, c, b1, b2, by rw [ez (o + 9) (by omega) (by omega) (by omega) (by omega)]; exact b3, by rw [ez (o + 9) (by omega) (by omega) (by omega) (by omega)]; exact b4, by rw [eo 6 (by decide) (by decide)]; exact b5, fun a ha w' hw' => ?_⟩
  · rw [e0 1 (by decide), a1]
    refine set_congr fun p hp => ?_
    rw [wN_up]
    by_cases h : p = n
    · rw [if_pos h, decide_eq_false (by omega), Bool.false_and, Bool.and_false]
    · rw [if_neg h]
      by_cases h2 : p < n
      · rw [decide_eq_true h2, decide_eq_true (by omega)]
      · rw [decide_eq_false h2, decide_eq_false (by omega)]
  · rw [e0 2 (by decide), a2]
    refine set_congr fun p hp => ?_
    rw [wN_sl]
    by_cases h : p = n
    · rw [if_pos h, decide_eq_false (by omega), Bool.false_and, Bool.and_false]
    · rw [if_neg h]
      by_cases h2 : p < n
      · rw [decide_eq_true h2, decide_eq_true (by omega)]
      · rw [decide_eq_false h2, decide_eq_false (by omega)]
  · rw [r1, r2, r3, ez (o + 4) (by omega) (by omega) (by omega) (by omega), ez (o + 5) (by omega) (by omega) (by omega) (by omega), ez (o + 6) (by omega) (by omega) (by omega) (by omega)]
    by_cases h : p = n
    · subst h
      obtain ⟨g0, g1, g2, g3, g4, g5, g6⟩ := wN_n (n := p) (W := W) (v := v) (w := w)
      obtain ⟨-, z2, z3⟩ := a9 p (Nat.le_refl p) hn
      rw [if_pos rfl, if_pos rfl, if_pos rfl, g0, g1, g2, g4, g6, wN_up, if_pos rfl]
      exact ⟨rfl, rfl, rfl, z2, z3, fun h => by cases h⟩
    · rw [if_neg h, if_neg h, if_neg h, wN_p (by decide) h, wN_p (by decide) h, wN_p (by decide) h, wN_p (by decide) h, wN_p (by decide) h, wN_p (by decide) h, wN_up, if_neg h]
      exact a8 p (by omega)
  · rw [r3, if_neg (by omega), ez (o + 4) (by omega) (by omega) (by omega) (by omega), ez (o + 6) (by omega) (by omega) (by omega) (by omega)]
    exact a9 p (by omega) hp8
  · rw [show o + 9 + 1 = o + 10 from rfl, ez (o + 10) (by omega) (by omega) (by omega) (by omega), wN_o (by omega) (by omega)]
    exact b6 a ha w' hw'
/-- the reference's -/
theorem M_add {Y : mM} (h0 : Y 216 0 = nI n) (hn : n < 8) {v w : Nat} (hw : w < 2 ^ 31) : f_X12_readPerson_23 (nI n) (nI v) (nI w) Y = some (true, rs Y 216 (wNw n (Y 216) (nI v) (nI w))) := by
  unfold f_X12_readPerson_23
  have e : ∀ c, f_X12_at (nI n) (nI c) = nI (8 + 7 * n + c) := fun c => i_at
  have e0 := e 0; have e1 := e 1; have e2 := e 2; have e3 := e 3; have e4 := e 4; have e5 := e 5; have e6 := e 6
  rw [show decide ((0 : Int32) ≤ nI w) = true from decide_eq_true (nI_pos' hw), cond_true]
  rw [show f_X12_at (nI n) (0 : Int32) = nI (8 + 7 * n + 0) from e0, show f_X12_at (nI n) (1 : Int32) = nI (8 + 7 * n + 1) from e1, show f_X12_at (nI n) (2 : Int32) = nI (8 + 7 * n + 2) from e2, show f_X12_at (nI n) (3 : Int32) = nI (8 + 7 * n + 3) from e3, show f_X12_at (nI n) (4 : Int32) = nI (8 + 7 * n + 4) from e4, show f_X12_at (nI n) (5 : Int32) = nI (8 + 7 * n + 5) from e5, show f_X12_at (nI n) (6 : Int32) = nI (8 + 7 * n + 6) from e6]
  rw [gd_t (i_in (by omega) (by decide)), wr_e, gd_t (i_in (by omega) (by decide)), wr_e, gd_t (i_in (by omega) (by decide)), wr_e, gd_t (i_in (by omega) (by decide)), wr_e, gd_t (i_in (by omega) (by decide)), wr_e, gd_t (i_in (by omega) (by decide)), wr_e, gd_t (i_in (by omega) (by decide)), wr_e, wr_e, i_ix (by omega), i_ix (by omega), i_ix (by omega), i_ix (by omega), i_ix (by omega), i_ix (by omega), i_ix (by omega), show ix (0 : Int32) = 0 from rfl]
  rw [mst_rs Y, rs_st, rs_st, rs_st, rs_st, rs_st, rs_st, rs_at, rs_st]
  rw [show upd (upd (upd (upd (upd (upd (upd (Y 216) (8 + 7 * n + 0) (nI v)) (8 + 7 * n + 1) (nI w)) (8 + 7 * n + 2) (nI w)) (8 + 7 * n + 3) 0) (8 + 7 * n + 4) 0) (8 + 7 * n + 5) (-1)) (8 + 7 * n + 6) 0 0 = nI n by rw [upd_ne (by omega), upd_ne (by omega), upd_ne (by omega), upd_ne (by omega), upd_ne (by omega), upd_ne (by omega), upd_ne (by omega)]; exact h0, i_1]
  rfl
end
