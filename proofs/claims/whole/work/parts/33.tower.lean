/-! what the class's towers answer, by their rows -/
theorem setK_s (c : Nat → Bool) (k : Nat) : setK c (k + 1) = bif c k then setK c k ||| f_X11_bit (nI k) else setK c k := rfl
theorem carP_s (act : Nat → Bool) (wt by' b : Nat → Int32) (k : Nat) : carP act wt by' b (k + 1) = bif act k then shS (wt k + carP act wt by' b k k) (by' k) (carP act wt by' b k) else carP act wt by' b k := rfl
theorem carR_s (act : Nat → Nat → Bool) (wt by' b : Nat → Int32) (j : Nat) : carR act wt by' b (j + 1) = carP (act (4 - j)) wt by' (carR act wt by' b j) 8 := rfl
theorem i_m1 (k : Nat) : nI (k + 1) + (-1 : Int32) = nI k := by
  rw [nI_succ, Int32.add_assoc, show (1 : Int32) + (-1 : Int32) = 0 by decide, Int32.add_zero]
theorem i_28 : (8 : Nat) < 2 ^ 31 := by decide
theorem i_14 {j : Nat} (h : j < 4) : decide (nI (4 - j) ≤ 0) = false := by
  have := i_le (a := 4 - j) (b := 0) (by omega) (by decide)
  rw [show nI 0 = (0 : Int32) from rfl] at this
  rw [this]
  exact decide_eq_false (by omega)
section
variable {o : Nat} {M : mM}
theorem T_hold (ho : mTwB o = true) : f_X9_holders o M = some (M o 1 &&& (M o 2 ^^^ (-1 : Int32))) := by
  unfold f_X9_holders
  exact gd_t ho
/-- who is carried in which ring -/
def tAct (M : mM) (o : Nat) (ups : Int32) (r p : Nat) : Bool := hs ups p && decide (M (o + 5) p = nI r)
def tBy (M : mM) (o : Nat) (hd : Int32) (p : Nat) : Int32 := M (o + 6) p &&& hd
theorem T_carry_23 (ho : mTwB o = true) {b : Nat} (hb : mA8B b = true) (h1 : o + 1 ≠ b) (h5 : o + 5 ≠ b) (h6 : o + 6 ≠ b) {ups hd : Int32} {r : Nat} (hr : r < 2 ^ 31) : f_X9_carry_l23 o b ups hd (nI (r + 1)) 0 M = some (.inr (nI r, rs M b (carP (tAct M o ups (r + 1)) (M (o + 1)) (tBy M o hd) (M b) 8))) := by
  unfold f_X9_carry_l23
  refine wh_8e (fun k => (nI k, rs M b (carP (tAct M o ups (r + 1)) (M (o + 1)) (tBy M o hd) (M b) k))) _ ?_ ?_ ?_
  · show ((0 : Int32), M) = (nI 0, rs M b (M b))
    rw [rs_self]
    rfl
  · intro k hk
    show f_X9_carry_23 o b ups hd (nI (r + 1)) (nI k) _ = _
    unfold f_X9_carry_23
    rw [bif_f (i_8 hk), has_hs (by omega)]
    simp only [gd_t (i_in hk i_28), i_ix (show k < 2 ^ 31 by omega), i_1, rs_at, rs_ne h1, rs_ne h5, rs_ne h6, dn, c_sh hb, b2_s, rs_rs, carP_s]
    show _ = some (Sum.inr (nI (k + 1), rs M b (bif hs ups k && decide (M (o + 5) k = nI (r + 1)) then _ else _)))
    generalize carP (tAct M o ups (r + 1)) (M (o + 1)) (tBy M o hd) (M b) k = z
    cases hs ups k <;> cases decide (M (o + 5) k = nI (r + 1)) <;> rfl
  · show f_X9_carry_23 o b ups hd (nI (r + 1)) (nI 8) _ = _
    unfold f_X9_carry_23
    rw [bif_t i_88, i_m1]
theorem T_carry_19 (ho : mTwB o = true) {b : Nat} (hb : mA8B b = true) (h1 : o + 1 ≠ b) (h5 : o + 5 ≠ b) (h6 : o + 6 ≠ b) {ups hd : Int32} : f_X9_carry_l19 o b ups hd (4 : Int32) M = some ((), rs M b (carR (tAct M o ups) (M (o + 1)) (tBy M o hd) (M b) 4)) := by
  unfold f_X9_carry_l19
  refine wh_ne (fun j => (nI (4 - j), rs M b (carR (tAct M o ups) (M (o + 1)) (tBy M o hd) (M b) j))) 4 _ (by decide) ?_ ?_ ?_
  · show ((4 : Int32), M) = (nI 4, rs M b (M b))
    rw [rs_self]
    rfl
  · intro j hj
    show f_X9_carry_19 o b ups hd (nI (4 - j)) _ = _
    unfold f_X9_carry_19
    rw [bif_f (i_14 hj)]
    obtain ⟨q, hq⟩ : ∃ q, 4 - j = q + 1 := ⟨3 - j, by omega⟩
    rw [hq, T_carry_23 ho hb h1 h5 h6 (by omega)]
    dsimp only
    rw [rs_at, rs_rs, carR_s, hq, show 4 - (j + 1) = q by omega]
    have e1 : ∀ z, tAct (rs M b z) o ups (q + 1) = tAct M o ups (q + 1) := fun z => by unfold tAct; rw [rs_ne h5]
    have e2 : ∀ z, tBy (rs M b z) o hd = tBy M o hd := fun z => by unfold tBy; rw [rs_ne h6]
    rw [e1, e2, rs_ne h1]
  · rfl
theorem T_carry (ho : mTwB o = true) {b : Nat} (hb : mA8B b = true) (h1 : o + 1 ≠ b) (h5 : o + 5 ≠ b) (h6 : o + 6 ≠ b) {ups sl : Int32} : f_X9_carry o ups sl b M = some ((), rs M b (car (tAct M o ups) (M (o + 1)) (tBy M o (ups &&& (sl ^^^ (-1 : Int32)))) (M b))) := by
  unfold f_X9_carry
  rw [gd_t ho, gd_t hb]
  generalize ups &&& (sl ^^^ (-1 : Int32)) = hd
  unfold f_X9_carry_l8
  refine wh_8e (fun k => (nI k, rs M b (zrK (M b) k))) _ ?_ ?_ ?_
  · show ((0 : Int32), M) = (nI 0, rs M b (zrK (M b) 0))
    rw [zrK_0, rs_self]
    rfl
  · intro k hk
    show f_X9_carry_8 o b ups hd (nI k) _ = _
    unfold f_X9_carry_8
    rw [bif_f (i_8 hk), gd_t (i_in hk i_28)]
    simp only [wr_e, rs_st, i_1, i_ix (show k < 2 ^ 31 by omega), zrK_s]
  · show f_X9_carry_8 o b ups hd (nI 8) _ = _
    unfold f_X9_carry_8
    rw [bif_t i_88, T_carry_19 ho hb h1 h5 h6, b1_s]
    dsimp only
    rw [rs_rs, rs_at, rs_ne h1]
    have e1 : ∀ z, tAct (rs M b z) o ups = tAct M o ups := fun z => by funext r; unfold tAct; rw [rs_ne h5]
    have e2 : ∀ z, tBy (rs M b z) o hd = tBy M o hd := fun z => by unfold tBy; rw [rs_ne h6]
    rw [e1, e2]
    rfl
def tHang (M : mM) (o : Nat) (ups hd : Int32) (p : Nat) : Bool := hs ups p && (!decide (M (o + 5) p ≤ 0) && decide (M (o + 6) p &&& hd = 0))
theorem T_hang (ho : mTwB o = true) {ups sl : Int32} : f_X9_hanging o ups sl M = some (setOf (tHang M o ups (ups &&& (sl ^^^ (-1 : Int32))))) := by
  unfold f_X9_hanging
  rw [gd_t ho]
  generalize ups &&& (sl ^^^ (-1 : Int32)) = hd
  unfold f_X9_hanging_l10
  refine wh_8e (fun k => (setK (tHang M o ups hd) k, nI k)) _ rfl ?_ ?_
  · intro k hk
    show f_X9_hanging_10 o ups hd (setK (tHang M o ups hd) k) (nI k) M = _
    unfold f_X9_hanging_10
    rw [bif_f (i_8 hk), has_hs (by omega), setK_s]
    simp only [gd_t (i_in hk i_28), i_ix (show k < 2 ^ 31 by omega), i_1, dn]
    generalize setK (tHang M o ups hd) k = z
    unfold tHang
    cases hs ups k <;> cases decide (M (o + 5) k ≤ 0) <;> cases decide (M (o + 6) k &&& hd = 0) <;> rfl
  · show f_X9_hanging_10 o ups hd _ (nI 8) M = _
    unfold f_X9_hanging_10
    rw [bif_t i_88]
    rfl
def tYld (M : mM) (o b : Nat) (hd : Int32) (p : Nat) : Bool := hs hd p && !decide (M b p ≤ M (o + 3) p)
theorem T_yield (ho : mTwB o = true) {b : Nat} (hb : mA8B b = true) {hd : Int32} : f_X9_yielding o hd b M = some (setOf (tYld M o b hd)) := by
  unfold f_X9_yielding
  rw [gd_t ho, gd_t hb]
  unfold f_X9_yielding_l4
  refine wh_8e (fun k => (setK (tYld M o b hd) k, nI k)) _ rfl ?_ ?_
  · intro k hk
    show f_X9_yielding_4 o b hd (setK (tYld M o b hd) k) (nI k) M = _
    unfold f_X9_yielding_4
    rw [bif_f (i_8 hk), has_hs (by omega), setK_s]
    simp only [gd_t (i_in hk i_28), i_ix (show k < 2 ^ 31 by omega), i_1]
    generalize setK (tYld M o b hd) k = z
    unfold tYld
    cases hs hd k <;> cases decide (M b k ≤ M (o + 3) k) <;> rfl
  · show f_X9_yielding_4 o b hd _ (nI 8) M = _
    unfold f_X9_yielding_4
    rw [bif_t i_88]
    rfl
theorem mTw_a8 (ho : mTwB o = true) : mA8B (o + 7) = true ∧ mA8B (o + 8) = true := ⟨decide_eq_true (mTw7 ho), decide_eq_true (mTw8 ho)⟩
/-- the load that each would bear -/
def tCar (M : mM) (o : Nat) (ups hd : Int32) (b : Nat → Int32) : Nat → Int32 := car (tAct M o ups) (M (o + 1)) (tBy M o hd) b
def tStandB (M : mM) (o : Nat) (ups hd : Int32) (b : Nat → Int32) : Bool := decide (setOf (tHang M o ups hd) = 0) && decide (setOf (fun p => hs hd p && !decide (tCar M o ups hd b p ≤ M (o + 3) p)) = 0)
theorem T_stands (ho : mTwB o = true) {ups sl : Int32} : f_X9_stands o ups sl M = some (tStandB M o ups (ups &&& (sl ^^^ (-1 : Int32))) (M (o + 8)), bif decide (setOf (tHang M o ups (ups &&& (sl ^^^ (-1 : Int32)))) = 0) then rs M (o + 8) (tCar M o ups (ups &&& (sl ^^^ (-1 : Int32))) (M (o + 8))) else M) := by
  unfold f_X9_stands
  rw [gd_t ho, T_hang ho, b1_s, T_carry ho (mTw_a8 ho).2 (by omega) (by omega) (by omega)]
  generalize ups &&& (sl ^^^ (-1 : Int32)) = hd
  rw [b2_s, T_yield ho (mTw_a8 ho).2, b1_s]
  unfold tStandB
  have e : tYld (rs M (o + 8) (car (tAct M o ups) (M (o + 1)) (tBy M o hd) (M (o + 8)))) o (o + 8) hd = fun p => hs hd p && !decide (tCar M o ups hd (M (o + 8)) p ≤ M (o + 3) p) := by
    funext p
    unfold tYld tCar
    rw [rs_at, rs_ne (by omega)]
  rw [e, dn]
  cases decide (setOf (tHang M o ups hd) = 0) <;> cases decide (setOf (fun p => hs hd p && !decide (tCar M o ups hd (M (o + 8)) p ≤ M (o + 3) p)) = 0) <;> rfl
def tTrod (M : mM) (o : Nat) : Nat → Int32
  | 0 => 0
  | k + 1 => tTrod M o k ||| M (o + 6) k
theorem T_settle (ho : mTwB o = true) : f_X9_settle o M = some ((), rs (rs M o (upd (M o) 14 (tTrod M o 8))) (o + 7) (tCar M o (M o 1) (M o 1 &&& (M o 2 ^^^ (-1 : Int32))) (M (o + 7)))) := by
  unfold f_X9_settle
  rw [gd_t ho, wr_e]
  unfold f_X9_settle_l5
  refine wh_8e (fun k => (nI k, rs M o (upd (M o) 14 (tTrod M o k)))) _ ?_ ?_ ?_
  · rw [mst_rs]
    rfl
  · intro k hk
    show f_X9_settle_5 o (nI k) _ = _
    unfold f_X9_settle_5
    rw [bif_f (i_8 hk), gd_t (i_in hk i_28)]
    simp only [wr_e, rs_st, rs_at, i_1, i_ix (show k < 2 ^ 31 by omega), upd_at, upd_upd, rs_ne (show o + 6 ≠ o by omega)]
    rfl
  · show f_X9_settle_5 o (nI 8) _ = _
    unfold f_X9_settle_5
    rw [bif_t i_88, T_carry ho (mTw_a8 ho).1 (by omega) (by omega) (by omega), b2_s]
    dsimp only
    rw [rs_at, upd_ne (show 1 ≠ 14 by decide), upd_ne (show 2 ≠ 14 by decide)]
    have e1 : ∀ z u, tAct (rs M o z) o u = tAct M o u := fun z u => by funext r; unfold tAct; rw [rs_ne (by omega)]
    have e2 : ∀ z u, tBy (rs M o z) o u = tBy M o u := fun z u => by unfold tBy; rw [rs_ne (by omega)]
    rw [e1, e2, rs_ne (by omega), rs_ne (by omega)]
    rfl
end
