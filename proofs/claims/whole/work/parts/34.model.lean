/-! what the reference answers, by its world's row -/
def pv (W : Nat → Int32) (p c : Nat) : Int32 := W (8 + 7 * p + c)
def upB (W : Nat → Int32) (p : Nat) : Bool := !decide (pv W p 5 = -1)
def slB (W : Nat → Int32) (p : Nat) : Bool := decide (pv W p 3 = 1)
def hoB (W : Nat → Int32) (p : Nat) : Bool := upB W p && !slB W p
def upS (n : Nat) (W : Nat → Int32) : Int32 := setOf fun p => decide (p < n) && upB W p
def hoS (n : Nat) (W : Nat → Int32) : Int32 := setOf fun p => decide (p < n) && hoB W p
def slS (n : Nat) (W : Nat → Int32) : Int32 := setOf fun p => decide (p < n) && slB W p
def rgS (n : Nat) (W : Nat → Int32) (r : Int32) : Int32 := setOf fun p => decide (p < n) && decide (pv W p 5 = r)
def rAct (n : Nat) (W : Nat → Int32) (r p : Nat) : Bool := decide (p < n) && decide (pv W p 5 = nI r)
def rBy (n : Nat) (W : Nat → Int32) (p : Nat) : Int32 := pv W p 6 &&& hoS n W
def rCar (n : Nat) (W : Nat → Int32) (b : Nat → Int32) : Nat → Int32 := car (rAct n W) (fun p => pv W p 0) (rBy n W) b
def gwS (n : Nat) (W b : Nat → Int32) : Int32 := setOf fun p => decide (p < n) && (hoB W p && !decide (rCar n W b p ≤ pv W p 2))
def hgB (n : Nat) (W : Nat → Int32) (p : Nat) : Bool := !decide (pv W p 5 ≤ 0) && decide (rBy n W p = 0)
def hgS (n : Nat) (W : Nat → Int32) : Int32 := setOf fun p => decide (p < n) && hgB n W p
def stB (n : Nat) (W b : Nat → Int32) : Bool := decide (gwS n W b ||| hgS n W = 0)
theorem setK_8 {c : Nat → Bool} {n : Nat} (h : n ≤ 8) : setK (fun p => decide (p < n) && c p) n = setOf (fun p => decide (p < n) && c p) := by
  unfold setOf
  exact (setK_n (fun j hj _ => by rw [decide_eq_false (by omega), Bool.false_and]) 8 h (Nat.le_refl 8)).symm
theorem i_len {n k : Nat} (h : k < n) (hn : n ≤ 8) : decide (nI n ≤ nI k) = false := by
  rw [i_le (by omega) (by omega)]
  exact decide_eq_false (by omega)
theorem i_lee (n : Nat) : decide (nI n ≤ nI n) = true := decide_eq_true (Int32.le_refl _)
theorem i_at {k c : Nat} : f_X12_at (nI k) (nI c) = nI (8 + 7 * k + c) := by
  unfold f_X12_at
  rw [show (8 : Int32) = nI 8 from rfl, show (7 : Int32) = nI 7 from rfl]
  have : nI 7 * nI k = nI (7 * k) := by
    show Int32.ofNat 7 * Int32.ofNat k = Int32.ofNat (7 * k)
    rw [Int32.ofNat_mul]
  rw [this, nI_add, nI_add]
theorem b_or0 {b : Int32} : b ||| (0 : Int32) = b := Int32.or_zero
section
variable {M : mM} {n : Nat}
theorem m_of {k c : Nat} (hk : k < 8) (hc : c < 7) : f_X12_of (nI k) (nI c) M = some (pv (M 216) k c) := by
  unfold f_X12_of
  rw [i_at, gd_t (i_in (by omega) (by decide)), i_ix (by omega)]
  rfl
theorem m_ppl (hn : M 216 0 = nI n) : f_X12_people M = some (nI n) := by
  unfold f_X12_people
  rw [show ix (0 : Int32) = 0 from rfl, hn]
theorem m_isUp {k : Nat} (hk : k < 8) : f_X12_isUp (nI k) M = some (upB (M 216) k) := by
  unfold f_X12_isUp upB
  rw [show (5 : Int32) = nI 5 from rfl, m_of hk (by decide), b1_s]
  cases decide (pv (M 216) k 5 = -1) <;> rfl
theorem m_isAs {k : Nat} (hk : k < 8) : f_X12_isAsleep (nI k) M = some (slB (M 216) k) := by
  unfold f_X12_isAsleep slB
  rw [show (3 : Int32) = nI 3 from rfl, m_of hk (by decide), b1_s, dn]
  cases decide (pv (M 216) k 3 = 1) <;> rfl
theorem m_holds {k : Nat} (hk : k < 8) : f_X12_holds (nI k) M = some (hoB (M 216) k) := by
  unfold f_X12_holds hoB
  rw [m_isUp hk, b1_s, m_isAs hk, b1_s]
  cases upB (M 216) k <;> cases slB (M 216) k <;> rfl
theorem m_ups (hn : M 216 0 = nI n) (h8 : n ≤ 8) : f_X12_upOnes M = some (upS n (M 216)) := by
  unfold f_X12_upOnes f_X12_upOnes_l4 upS
  rw [← setK_8 h8]
  generalize hc : (fun p => decide (p < n) && upB (M 216) p) = c
  refine wh_ne (fun k => (setK c k, nI k)) n _ (by omega) rfl ?_ ?_
  · intro k hk
    show f_X12_upOnes_4 (setK c k) (nI k) M = _
    unfold f_X12_upOnes_4
    rw [m_ppl hn, b1_s, bif_f (i_len hk h8), m_isUp (by omega), b1_s, setK_s]
    simp only [i_1, bitE, b_or0]
    generalize setK c k = z
    subst hc
    dsimp only
    rw [decide_eq_true hk]
    cases upB (M 216) k <;> rfl
  · show f_X12_upOnes_4 (setK c n) (nI n) M = _
    unfold f_X12_upOnes_4
    rw [m_ppl hn, b1_s, bif_t (i_lee n)]
theorem m_hos (hn : M 216 0 = nI n) (h8 : n ≤ 8) : f_X12_holders M = some (hoS n (M 216)) := by
  unfold f_X12_holders f_X12_holders_l4 hoS
  rw [← setK_8 h8]
  generalize hc : (fun p => decide (p < n) && hoB (M 216) p) = c
  refine wh_ne (fun k => (setK c k, nI k)) n _ (by omega) rfl ?_ ?_
  · intro k hk
    show f_X12_holders_4 (setK c k) (nI k) M = _
    unfold f_X12_holders_4
    rw [m_ppl hn, b1_s, bif_f (i_len hk h8), m_holds (by omega), b1_s, setK_s]
    simp only [i_1, bitE, b_or0]
    generalize setK c k = z
    subst hc
    dsimp only
    rw [decide_eq_true hk]
    cases hoB (M 216) k <;> rfl
  · show f_X12_holders_4 (setK c n) (nI n) M = _
    unfold f_X12_holders_4
    rw [m_ppl hn, b1_s, bif_t (i_lee n)]
theorem m_sls (hn : M 216 0 = nI n) (h8 : n ≤ 8) : f_X12_asleepOnes M = some (slS n (M 216)) := by
  unfold f_X12_asleepOnes f_X12_asleepOnes_l4 slS
  rw [← setK_8 h8]
  generalize hc : (fun p => decide (p < n) && slB (M 216) p) = c
  refine wh_ne (fun k => (setK c k, nI k)) n _ (by omega) rfl ?_ ?_
  · intro k hk
    show f_X12_asleepOnes_4 (setK c k) (nI k) M = _
    unfold f_X12_asleepOnes_4
    rw [m_ppl hn, b1_s, bif_f (i_len hk h8), m_isAs (by omega), b1_s, setK_s]
    simp only [i_1, bitE, b_or0]
    generalize setK c k = z
    subst hc
    dsimp only
    rw [decide_eq_true hk]
    cases slB (M 216) k <;> rfl
  · show f_X12_asleepOnes_4 (setK c n) (nI n) M = _
    unfold f_X12_asleepOnes_4
    rw [m_ppl hn, b1_s, bif_t (i_lee n)]
theorem m_those (hn : M 216 0 = nI n) (h8 : n ≤ 8) {r : Int32} : f_X12_those r M = some (rgS n (M 216) r) := by
  unfold f_X12_those f_X12_those_l4 rgS
  rw [← setK_8 h8]
  generalize hc : (fun p => decide (p < n) && decide (pv (M 216) p 5 = r)) = c
  refine wh_ne (fun k => (setK c k, nI k)) n _ (by omega) rfl ?_ ?_
  · intro k hk
    show f_X12_those_4 r (setK c k) (nI k) M = _
    unfold f_X12_those_4
    rw [m_ppl hn, b1_s, bif_f (i_len hk h8), show (5 : Int32) = nI 5 from rfl, m_of (by omega) (by decide), b1_s, setK_s]
    simp only [i_1, bitE, b_or0, dn]
    generalize setK c k = z
    subst hc
    dsimp only
    rw [decide_eq_true hk]
    cases decide (pv (M 216) k 5 = r) <;> rfl
  · show f_X12_those_4 r (setK c n) (nI n) M = _
    unfold f_X12_those_4
    rw [m_ppl hn, b1_s, bif_t (i_lee n)]
theorem mB_add {x e : Int32} {b : Bool} : x + (e + mB b) = x + (bif b then e + 1 else e) := by cases b <;> simp [mB]
theorem m_shares_l (hn : M 216 0 = nI n) (h8 : n ≤ 8) {by' mn gv lf : Int32} (h0 : mn ≠ 0) (hb : ∀ p, n ≤ p → p < 8 → hs by' p = false) : f_X12_shares_l30 by' mn gv lf 0 M = some ((), rs M 221 (shK by' (gv / mn) lf (M 221) 8).2) := by
  have e8 : (shK by' (gv / mn) lf (M 221) 8) = shK by' (gv / mn) lf (M 221) n := by
    have : ∀ m, n ≤ m → m ≤ 8 → shK by' (gv / mn) lf (M 221) m = shK by' (gv / mn) lf (M 221) n := by
      intro m
      induction m with
      | zero => intro h1 _; rw [show n = 0 by omega]
      | succ m ih =>
        intro h1 h2
        by_cases hm : n ≤ m
        · rw [← ih hm (by omega), shK_s, hb m hm (by omega)]
          rfl
        · rw [show n = m + 1 by omega]
    exact this 8 h8 (Nat.le_refl 8)
  rw [e8]
  unfold f_X12_shares_l30
  refine wh_ne (fun k => ((shK by' (gv / mn) lf (M 221) k).1, nI k, rs M 221 (shK by' (gv / mn) lf (M 221) k).2)) n _ (by omega) ?_ ?_ ?_
  · show (lf, (0 : Int32), M) = (lf, nI 0, rs M 221 (M 221))
    rw [rs_self]
    rfl
  · intro k hk
    show f_X12_shares_30 by' mn gv _ (nI k) _ = _
    unfold f_X12_shares_30 f_X12_shares_52
    rw [m_ppl (n := n) (by simp only [rs_ne (show 216 ≠ 221 by decide)]; exact hn), b1_s, bif_f (i_len hk h8), mhas_hs (by omega), shK_s]
    simp only [gd_t (i_in (show k < 8 by omega) i_28), i_ix (show k < 2 ^ 31 by omega), wr_e, rs_at, rs_st, i_1, gd_t (decide_eq_true h0)]
    generalize shK by' (gv / mn) lf (M 221) k = z
    cases hs by' k
    · rfl
    · cases h : decide (z.1 ≤ 0)
      · simp only [cond_true, cond_false, h, mB_add]
      · simp only [cond_true, cond_false, h, mB_add]
  · show f_X12_shares_30 by' mn gv _ (nI n) _ = _
    unfold f_X12_shares_30
    rw [m_ppl (n := n) (by simp only [rs_ne (show 216 ≠ 221 by decide)]; exact hn), b1_s, bif_t (i_lee n)]
theorem rBy_out {W : Nat → Int32} {k p : Nat} (h : n ≤ p) (hp : p < 8) : hs (rBy n W k) p = false := by
  unfold rBy hoS
  rw [hs_and, hs_set8 hp, decide_eq_false (by omega), Bool.false_and, Bool.and_false]
theorem m_shares (hn : M 216 0 = nI n) (h8 : n ≤ 8) {k : Nat} (hk : k < 8) : f_X12_shares (nI k) M = some ((), rs M 221 (shS (pv (M 216) k 0 + M 221 k) (rBy n (M 216) k) (M 221))) := by
  unfold f_X12_shares
  rw [show (6 : Int32) = nI 6 from rfl, m_of hk (by decide), b1_s, m_hos hn h8, b1_s]
  show (bif decide (¬ bc (rBy n (M 216) k) = 0) then _ else _) = _
  rw [dn]
  unfold shS
  cases h : decide (bc (rBy n (M 216) k) = 0)
  · rw [show (0 : Int32) = nI 0 from rfl, m_of hk (by decide)]
    simp only [Bool.not_false, cond_true, cond_false, b1_s, gd_t (i_in hk i_28), i_ix (show k < 2 ^ 31 by omega)]
    have h0 : ¬ bc (rBy n (M 216) k) = 0 := of_decide_eq_false h
    show gd (decide (¬ bc (rBy n (M 216) k) = nI 0)) (f_X12_shares_l30 (rBy n (M 216) k) (bc (rBy n (M 216) k)) _ _ (nI 0) M) = _
    rw [show nI 0 = (0 : Int32) from rfl, gd_t (decide_eq_true h0)]
    exact m_shares_l hn h8 h0 fun p hp hp8 => rBy_out hp hp8
  · simp only [Bool.not_true, cond_true, cond_false, rs_self]
theorem m_lays_18 (hn : M 216 0 = nI n) (h8 : n ≤ 8) {r : Nat} (hr : r < 2 ^ 31) : f_X12_lays_l18 (nI (r + 1)) 0 M = some (.inr (nI r, rs M 221 (carP (rAct n (M 216) (r + 1)) (fun p => pv (M 216) p 0) (rBy n (M 216)) (M 221) 8))) := by
  rw [carP_n (n := n) (fun p hp hp8 => by unfold rAct; rw [decide_eq_false (by omega), Bool.false_and]) 8 h8 (Nat.le_refl 8)]
  unfold f_X12_lays_l18
  refine wh_ne (fun k => (nI k, rs M 221 (carP (rAct n (M 216) (r + 1)) (fun p => pv (M 216) p 0) (rBy n (M 216)) (M 221) k))) n _ (by omega) ?_ ?_ ?_
  · show ((0 : Int32), M) = (nI 0, rs M 221 (M 221))
    rw [rs_self]
    rfl
  · intro k hk
    show f_X12_lays_18 (nI (r + 1)) (nI k) _ = _
    unfold f_X12_lays_18
    rw [m_ppl (n := n) (by simp only [rs_ne (show 216 ≠ 221 by decide)]; exact hn), b1_s, bif_f (i_len hk h8), show (5 : Int32) = nI 5 from rfl, m_of (by omega) (by decide), b1_s, m_shares (n := n) (by simp only [rs_ne (show 216 ≠ 221 by decide)]; exact hn) h8 (by omega)]
    simp only [b2_s, rs_at, rs_rs, rs_ne (show 216 ≠ 221 by decide), i_1, dn, carP_s]
    show _ = some (Sum.inr (nI (k + 1), rs M 221 (bif decide (k < n) && decide (pv (M 216) k 5 = nI (r + 1)) then _ else _)))
    rw [decide_eq_true hk]
    generalize carP (rAct n (M 216) (r + 1)) (fun p => pv (M 216) p 0) (rBy n (M 216)) (M 221) k = z
    cases decide (pv (M 216) k 5 = nI (r + 1)) <;> rfl
  · show f_X12_lays_18 (nI (r + 1)) (nI n) _ = _
    unfold f_X12_lays_18
    rw [m_ppl (n := n) (by simp only [rs_ne (show 216 ≠ 221 by decide)]; exact hn), b1_s, bif_t (i_lee n), i_m1]
theorem m_lays_14 (hn : M 216 0 = nI n) (h8 : n ≤ 8) : f_X12_lays_l14 (4 : Int32) M = some ((), rs M 221 (carR (rAct n (M 216)) (fun p => pv (M 216) p 0) (rBy n (M 216)) (M 221) 4)) := by
  unfold f_X12_lays_l14
  refine wh_ne (fun j => (nI (4 - j), rs M 221 (carR (rAct n (M 216)) (fun p => pv (M 216) p 0) (rBy n (M 216)) (M 221) j))) 4 _ (by decide) ?_ ?_ ?_
  · show ((4 : Int32), M) = (nI 4, rs M 221 (M 221))
    rw [rs_self]
    rfl
  · intro j hj
    show f_X12_lays_14 (nI (4 - j)) _ = _
    unfold f_X12_lays_14
    rw [bif_f (i_14 hj)]
    obtain ⟨q, hq⟩ : ∃ q, 4 - j = q + 1 := ⟨3 - j, by omega⟩
    rw [hq, m_lays_18 (n := n) (by simp only [rs_ne (show 216 ≠ 221 by decide)]; exact hn) h8 (by omega)]
    dsimp only
    rw [rs_at, rs_rs, carR_s, hq, show 4 - (j + 1) = q by omega, rs_ne (show 216 ≠ 221 by decide)]
  · rfl
theorem m_lays (hn : M 216 0 = nI n) (h8 : n ≤ 8) : f_X12_lays M = some ((), rs M 221 (rCar n (M 216) (M 221))) := by
  unfold f_X12_lays f_X12_lays_l2
  refine wh_8e (fun k => (nI k, rs M 221 (zrK (M 221) k))) _ ?_ ?_ ?_
  · show ((0 : Int32), M) = (nI 0, rs M 221 (zrK (M 221) 0))
    rw [zrK_0, rs_self]
    rfl
  · intro k hk
    show f_X12_lays_2 (nI k) _ = _
    unfold f_X12_lays_2
    rw [bif_f (i_8 hk), gd_t (i_in hk i_28)]
    simp only [wr_e, rs_st, i_1, i_ix (show k < 2 ^ 31 by omega), zrK_s]
  · show f_X12_lays_2 (nI 8) _ = _
    unfold f_X12_lays_2
    rw [bif_t i_88, m_lays_14 (n := n) (by simp only [rs_ne (show 216 ≠ 221 by decide)]; exact hn) h8, b1_s]
    dsimp only
    rw [rs_rs, rs_at, rs_ne (show 216 ≠ 221 by decide)]
    rfl
theorem m_hangs (hn : M 216 0 = nI n) (h8 : n ≤ 8) {k : Nat} (hk : k < 8) : f_X12_hangs (nI k) M = some (hgB n (M 216) k) := by
  unfold f_X12_hangs hgB
  rw [show (5 : Int32) = nI 5 from rfl, show (6 : Int32) = nI 6 from rfl, m_of hk (by decide), m_of hk (by decide), b1_s, b1_s, m_hos hn h8, b1_s, dn]
  show (bif _ then _ else bif !decide (rBy n (M 216) k = 0) then _ else _) = _
  cases decide (pv (M 216) k 5 ≤ 0) <;> cases decide (rBy n (M 216) k = 0) <;> rfl
theorem m_hging (hn : M 216 0 = nI n) (h8 : n ≤ 8) : f_X12_hanging M = some (hgS n (M 216)) := by
  unfold f_X12_hanging f_X12_hanging_l4 hgS
  rw [← setK_8 h8]
  generalize hc : (fun p => decide (p < n) && hgB n (M 216) p) = c
  refine wh_ne (fun k => (setK c k, nI k)) n _ (by omega) rfl ?_ ?_
  · intro k hk
    show f_X12_hanging_4 (setK c k) (nI k) M = _
    unfold f_X12_hanging_4
    rw [m_ppl hn, b1_s, bif_f (i_len hk h8), m_hangs hn h8 (by omega), b1_s, setK_s]
    simp only [i_1, bitE, b_or0]
    generalize setK c k = z
    subst hc
    dsimp only
    rw [decide_eq_true hk]
    cases hgB n (M 216) k <;> rfl
  · show f_X12_hanging_4 (setK c n) (nI n) M = _
    unfold f_X12_hanging_4
    rw [m_ppl hn, b1_s, bif_t (i_lee n)]
theorem m_gives (hn : M 216 0 = nI n) (h8 : n ≤ 8) : f_X12_givesWay M = some (gwS n (M 216) (M 221), rs M 221 (rCar n (M 216) (M 221))) := by
  unfold f_X12_givesWay gwS
  rw [m_lays hn h8, b2_s]
  generalize hB : rCar n (M 216) (M 221) = B
  unfold f_X12_givesWay_l6
  rw [← setK_8 h8]
  generalize hc : (fun p => decide (p < n) && (hoB (M 216) p && !decide (B p ≤ pv (M 216) p 2))) = c
  refine wh_ne (fun k => (setK c k, nI k)) n _ (by omega) rfl ?_ ?_
  · intro k hk
    show f_X12_givesWay_6 (setK c k) (nI k) _ = _
    unfold f_X12_givesWay_6
    rw [m_ppl (n := n) (by simp only [rs_ne (show 216 ≠ 221 by decide)]; exact hn), b1_s, bif_f (i_len hk h8), m_holds (by omega), b1_s, setK_s, show (2 : Int32) = nI 2 from rfl, m_of (by omega) (by decide)]
    simp only [i_1, bitE, b_or0, b1_s, rs_at, rs_ne (show 216 ≠ 221 by decide), gd_t (i_in (show k < 8 by omega) i_28), i_ix (show k < 2 ^ 31 by omega)]
    generalize setK c k = z
    subst hc
    dsimp only
    rw [decide_eq_true hk]
    cases hoB (M 216) k <;> cases decide (B k ≤ pv (M 216) k 2) <;> rfl
  · show f_X12_givesWay_6 (setK c n) (nI n) _ = _
    unfold f_X12_givesWay_6
    rw [m_ppl (n := n) (by simp only [rs_ne (show 216 ≠ 221 by decide)]; exact hn), b1_s, bif_t (i_lee n)]
theorem m_stands (hn : M 216 0 = nI n) (h8 : n ≤ 8) : f_X12_stands M = some (stB n (M 216) (M 221), rs M 221 (rCar n (M 216) (M 221))) := by
  unfold f_X12_stands stB
  rw [m_gives hn h8, b2_s, m_hging (n := n) (by simp only [rs_ne (show 216 ≠ 221 by decide)]; exact hn) h8, b1_s, rs_ne (by decide), dn]
  cases decide (gwS n (M 216) (M 221) ||| hgS n (M 216) = 0) <;> rfl
end
