/-! sums; twins and pairs; who is a person -/
def sm (f : Nat → Int32) : Nat → Int32
  | 0 => 0
  | k + 1 => sm f k + f k
theorem sm_s (f : Nat → Int32) (k : Nat) : sm f (k + 1) = sm f k + f k := rfl
theorem sm_congr {f g : Nat → Int32} : ∀ {k : Nat}, (∀ j, j < k → f j = g j) → sm f k = sm g k := by
  intro k
  induction k with
  | zero => intro _; rfl
  | succ k ih => intro h; rw [sm_s, sm_s, ih fun j hj => h j (by omega), h k (by omega)]
theorem sm_0 {f : Nat → Int32} : ∀ {k : Nat}, (∀ j, j < k → f j = 0) → sm f k = 0 := by
  intro k
  induction k with
  | zero => intro _; rfl
  | succ k ih => intro h; rw [sm_s, ih fun j hj => h j (by omega), h k (by omega)]; rfl
theorem sm_add (f : Nat → Int32) (x : Nat) : ∀ y, sm f (x + y) = sm f x + sm (fun k => f (x + k)) y := by
  intro y
  induction y with
  | zero => exact (Int32.add_zero _).symm
  | succ y ih => rw [← Nat.add_assoc, sm_s, ih, sm_s, Int32.add_assoc]
theorem sm_n {f : Nat → Int32} {n : Nat} (h : ∀ k, n ≤ k → k < 8 → f k = 0) (h8 : n ≤ 8) : sm f 8 = sm f n := by
  rw [show 8 = n + (8 - n) by omega, sm_add, sm_0 (f := fun k => f (n + k)) fun j hj => h _ (by omega) (by omega), Int32.add_zero]
theorem sm_pl (f g : Nat → Int32) : ∀ k, sm (fun j => f j + g j) k = sm f k + sm g k := by
  intro k
  induction k with
  | zero => rfl
  | succ k ih =>
    rw [sm_s, sm_s, sm_s, ih]
    ac_rfl
theorem sm_swap (g : Nat → Nat → Int32) (m : Nat) : ∀ k, sm (fun i => sm (g i) m) k = sm (fun j => sm (fun i => g i j) k) m := by
  intro k
  induction k with
  | zero => exact (sm_0 fun _ _ => rfl).symm
  | succ k ih =>
    rw [sm_s, ih]
    rw [show (fun j => sm (fun i => g i j) (k + 1)) = fun j => sm (fun i => g i j) k + g k j from rfl, sm_pl]
def b01 (b : Bool) : Int32 := bif b then 1 else 0
/-- the pairs i < j below 8 -/
def prS (t : Nat → Nat → Bool) : Int32 := sm (fun i => sm (fun j => b01 (decide (i < j) && t i j)) 8) 8
theorem pr_up (t : Nat → Nat → Bool) {i : Nat} (hi : i < 8) : sm (fun j => b01 (decide (i < j) && t i j)) 8 = sm (fun k => b01 (t i (i + 1 + k))) (7 - i) := by
  rw [show 8 = (i + 1) + (7 - i) by omega, sm_add, sm_0 fun j hj => by rw [decide_eq_false (by omega)]; rfl, Int32.zero_add]
  exact sm_congr fun k hk => by rw [decide_eq_true (by omega), Bool.true_and]
theorem pr_dn (t : Nat → Nat → Bool) : prS t = sm (fun j => sm (fun i => b01 (t i j)) j) 8 := by
  unfold prS
  rw [sm_swap]
  refine sm_congr fun j hj => ?_
  rw [show 8 = j + (8 - j) by omega, sm_add, sm_0 (f := fun k => b01 (decide (j + k < j) && t (j + k) j)) fun k hk => by rw [decide_eq_false (by omega)]; rfl, Int32.add_zero]
  exact sm_congr fun i hi => by rw [decide_eq_true hi, Bool.true_and]
section
variable {n : Nat} {M : mM}
def twB (n : Nat) (W : Nat → Int32) (i j : Nat) : Bool := decide (j < n) && (decide (pv W i 0 = pv W j 0) && decide (pv W i 1 = pv W j 1))
theorem C_tw_in (h : Rl n M) {i : Nat} (hi : i < 8) {z : Int32} : f_X11_twins_l11 (nI i) z (nI i + (1 : Int32)) M = some (.inr (z + sm (fun j => b01 (decide (i < j) && twB n (M 216) i j)) 8, nI (i + 1))) := by
  rw [pr_up _ hi]
  unfold f_X11_twins_l11
  refine wh_ne (fun k => (z + sm (fun k => b01 (twB n (M 216) i (i + 1 + k))) k, nI (i + 1 + k))) (7 - i) _ (by omega) ?_ ?_ ?_
  · show (z, nI i + (1 : Int32)) = (z + 0, nI (i + 1))
    rw [i_1, Int32.add_zero]
  · intro k hk
    show f_X11_twins_11 _ (nI i) (nI (i + 1 + k)) M = _
    unfold f_X11_twins_11
    rw [bif_f (i_8 (by omega)), show M 35 0 = nI n from h.tr.1, sm_s, ← Int32.add_assoc]
    generalize z + sm (fun k => b01 (twB n (M 216) i (i + 1 + k))) k = y
    simp only [gd_t (i_in (show i + 1 + k < 8 by omega) i_28), gd_t (i_in hi i_28), i_ix (show i < 2 ^ 31 by omega), i_ix (show i + 1 + k < 2 ^ 31 by omega), i_1, dn]
    rw [i_le (by have := h.h8; omega) (by omega)]
    unfold twB
    cases e : decide (i + 1 + k < n)
    · rw [decide_eq_true (by have := of_decide_eq_false e; omega)]
      show some (Sum.inr (y, _)) = some (Sum.inr (y + 0, _))
      rw [Int32.add_zero]
      rfl
    · have e' := of_decide_eq_true e
      rw [decide_eq_false (by omega)]
      have g1 := h.tr.pp (show i < n by omega)
      have g2 := h.tr.pp e'
      rw [show M 36 i = pv (M 216) i 0 from g1.1, show M 37 i = pv (M 216) i 1 from g1.2.1, show M 36 (i + 1 + k) = pv (M 216) (i + 1 + k) 0 from g2.1, show M 37 (i + 1 + k) = pv (M 216) (i + 1 + k) 1 from g2.2.1]
      have y0 : y = y + 0 := (Int32.add_zero y).symm
      cases decide (pv (M 216) i 0 = pv (M 216) (i + 1 + k) 0) <;> cases decide (pv (M 216) i 1 = pv (M 216) (i + 1 + k) 1) <;> first | rfl | (show some (Sum.inr (y, _)) = some (Sum.inr (y + 0, _)); rw [← y0]; rfl)
  · show f_X11_twins_11 _ (nI i) (nI (i + 1 + (7 - i))) M = _
    unfold f_X11_twins_11
    rw [show i + 1 + (7 - i) = 8 by omega, bif_t i_88, i_1]
theorem C_twins (h : Rl n M) : f_X11_twins M = some (prS (twB n (M 216))) := by
  unfold f_X11_twins

  unfold f_X11_twins_l4
  refine wh_8e (fun k => (sm (fun i => sm (fun j => b01 (decide (i < j) && twB n (M 216) i j)) 8) k, nI k)) _ rfl ?_ ?_
  · intro k hk
    show f_X11_twins_4 _ (nI k) M = _
    unfold f_X11_twins_4
    rw [bif_f (i_8 hk)]
    simp only [has_hs (show k < 32 by omega), gd_t (i_in hk i_28), i_ix (show k < 2 ^ 31 by omega), i_1, dn, b1_s, b2_s, wr_e]
    rw [← i_1, C_tw_in h hk, i_1]
    rfl
  · show f_X11_twins_4 _ (nI 8) M = _
    unfold f_X11_twins_4
    rw [bif_t i_88]
    rfl
theorem M_tw_in {M : mM} (hn : M 216 0 = nI n) (h8 : n ≤ 8) {i : Nat} (hi : i < n) {z : Int32} : f_X12_twins_l13 (nI i) z 0 M = some (.inr (z + sm (fun j => b01 (twB n (M 216) j i)) i, nI (i + 1))) := by
  unfold f_X12_twins_l13
  refine wh_ne (fun k => (z + sm (fun j => b01 (twB n (M 216) j i)) k, nI k)) i _ (by omega) ?_ ?_ ?_
  · show (z, (0 : Int32)) = (z + 0, nI 0)
    rw [Int32.add_zero]
    rfl
  · intro k hk
    show f_X12_twins_13 _ (nI i) (nI k) M = _
    unfold f_X12_twins_13
    rw [bif_f (i_len hk (by omega)), sm_s, ← Int32.add_assoc, show (0 : Int32) = nI 0 from rfl, show (1 : Int32) = nI 1 from rfl, m_of (by omega) (by decide), m_of (by omega) (by decide), m_of (by omega) (by decide), m_of (by omega) (by decide)]
    generalize z + sm (fun j => b01 (twB n (M 216) j i)) k = y
    simp only [b1_s, dn]
    unfold twB
    rw [decide_eq_true hi]
    have e1 : decide (pv (M 216) i 0 = pv (M 216) k 0) = decide (pv (M 216) k 0 = pv (M 216) i 0) := by rw [decide_eq_decide]; exact eq_comm
    have e2 : decide (pv (M 216) i 1 = pv (M 216) k 1) = decide (pv (M 216) k 1 = pv (M 216) i 1) := by rw [decide_eq_decide]; exact eq_comm
    rw [e1, e2, show nI k + nI 1 = nI (k + 1) from i_1 k]
    cases decide (pv (M 216) k 0 = pv (M 216) i 0) <;> cases decide (pv (M 216) k 1 = pv (M 216) i 1) <;> rfl
  · show f_X12_twins_13 _ (nI i) (nI i) M = _
    unfold f_X12_twins_13
    rw [bif_t (i_lee i), i_1]
theorem M_twins (hn : M 216 0 = nI n) (h8 : n ≤ 8) : f_X12_twins M = some (prS (twB n (M 216)), mst M 215 0 0) := by
  unfold f_X12_twins
  have hn' : mst M 215 0 0 216 0 = nI n := hn
  rw [wr_e, pr_dn, sm_n (n := n) (fun k h1 h2 => sm_0 fun j hj => by unfold twB; rw [decide_eq_false (by omega)]; rfl) h8]

  unfold f_X12_twins_l7
  refine wh_ne (fun k => (sm (fun j => sm (fun i => b01 (twB n (M 216) i j)) j) k, nI k)) n _ (by omega) rfl ?_ ?_
  · intro k hk
    show f_X12_twins_7 _ (nI k) (mst M 215 0 0) = _
    unfold f_X12_twins_7
    rw [m_ppl (n := n) (hn'), b1_s, bif_f (i_len hk h8)]
    simp only [mhas_hs (show k < 32 by omega), gd_t (i_in (show k < 8 by omega) i_28), i_ix (show k < 2 ^ 31 by omega), i_1, dn, b1_s, b2_s, wr_e, bitE, b_or0]
    rw [M_tw_in (M := mst M 215 0 0) (n := n) hn h8 hk, sm_s]
    rfl
  · show f_X12_twins_7 _ (nI n) (mst M 215 0 0) = _
    unfold f_X12_twins_7
    rw [m_ppl (n := n) (hn'), b1_s, bif_t (i_lee n)]
/-- pairs -/
def paB (n : Nat) (W : Nat → Int32) (x : Int32) (i j : Nat) : Bool := decide (j < n) && !decide (pv W i 1 + pv W j 1 < x)
theorem C_pa_in (h : Rl n M) {x : Int32} {i : Nat} (hi : i < 8) {z : Int32} : f_X11_pairs_l20 x (nI i) z (nI i + (1 : Int32)) M = some (.inr (z + sm (fun j => b01 (decide (i < j) && paB n (M 216) x i j)) 8, nI (i + 1))) := by
  rw [pr_up _ hi]
  unfold f_X11_pairs_l20
  refine wh_ne (fun k => (z + sm (fun k => b01 (paB n (M 216) x i (i + 1 + k))) k, nI (i + 1 + k))) (7 - i) _ (by omega) ?_ ?_ ?_
  · show (z, nI i + (1 : Int32)) = (z + 0, nI (i + 1))
    rw [i_1, Int32.add_zero]
  · intro k hk
    show f_X11_pairs_20 x _ (nI i) (nI (i + 1 + k)) M = _
    unfold f_X11_pairs_20
    rw [bif_f (i_8 (by omega)), show M 35 0 = nI n from h.tr.1, sm_s, ← Int32.add_assoc]
    generalize z + sm (fun k => b01 (paB n (M 216) x i (i + 1 + k))) k = y
    simp only [gd_t (i_in (show i + 1 + k < 8 by omega) i_28), gd_t (i_in hi i_28), i_ix (show i < 2 ^ 31 by omega), i_ix (show i + 1 + k < 2 ^ 31 by omega), i_1, dn]
    rw [i_le (by have := h.h8; omega) (by omega)]
    unfold paB
    have y0 : y = y + 0 := (Int32.add_zero y).symm
    cases e : decide (i + 1 + k < n)
    · rw [decide_eq_true (by have := of_decide_eq_false e; omega)]
      show some (Sum.inr (y, _)) = some (Sum.inr (y + 0, _))
      rw [← y0]
      rfl
    · have e' := of_decide_eq_true e
      rw [decide_eq_false (by omega)]
      have g1 := h.tr.pp (show i < n by omega)
      have g2 := h.tr.pp e'
      rw [show M 37 i = pv (M 216) i 1 from g1.2.1, show M 37 (i + 1 + k) = pv (M 216) (i + 1 + k) 1 from g2.2.1]
      cases decide (pv (M 216) i 1 + pv (M 216) (i + 1 + k) 1 < x)
      · rfl
      · show some (Sum.inr (y, _)) = some (Sum.inr (y + 0, _))
        rw [← y0]
        rfl
  · show f_X11_pairs_20 x _ (nI i) (nI (i + 1 + (7 - i))) M = _
    unfold f_X11_pairs_20
    rw [show i + 1 + (7 - i) = 8 by omega, bif_t i_88, i_1]
theorem C_pairs_l (h : Rl n M) {x : Int32} : f_X11_pairs_l13 x 0 0 M = some (.inl (prS (paB n (M 216) x)), M) := by

  unfold f_X11_pairs_l13
  refine wh_8e (fun k => (sm (fun i => sm (fun j => b01 (decide (i < j) && paB n (M 216) x i j)) 8) k, nI k)) _ rfl ?_ ?_
  · intro k hk
    show f_X11_pairs_13 x _ (nI k) M = _
    unfold f_X11_pairs_13
    rw [bif_f (i_8 hk)]
    simp only [has_hs (show k < 32 by omega), gd_t (i_in hk i_28), i_ix (show k < 2 ^ 31 by omega), i_1, dn, b1_s, b2_s, wr_e]
    rw [← i_1, C_pa_in h hk, i_1]
    rfl
  · show f_X11_pairs_13 x _ (nI 8) M = _
    unfold f_X11_pairs_13
    rw [bif_t i_88]
    rfl
theorem M_pa_in {M : mM} (hn : M 216 0 = nI n) (h8 : n ≤ 8) {x : Int32} {i : Nat} (hi : i < n) {z : Int32} : f_X12_pairs_l27 x (nI i) z 0 M = some (.inr (z + sm (fun j => b01 (paB n (M 216) x j i)) i, nI (i + 1))) := by
  unfold f_X12_pairs_l27
  refine wh_ne (fun k => (z + sm (fun j => b01 (paB n (M 216) x j i)) k, nI k)) i _ (by omega) ?_ ?_ ?_
  · show (z, (0 : Int32)) = (z + 0, nI 0)
    rw [Int32.add_zero]
    rfl
  · intro k hk
    show f_X12_pairs_27 x _ (nI i) (nI k) M = _
    unfold f_X12_pairs_27
    rw [bif_f (i_len hk (by omega)), sm_s, ← Int32.add_assoc, show (1 : Int32) = nI 1 from rfl, m_of (by omega) (by decide), m_of (by omega) (by decide)]
    generalize z + sm (fun j => b01 (paB n (M 216) x j i)) k = y
    simp only [b1_s]
    unfold paB
    rw [decide_eq_true hi, show nI k + nI 1 = nI (k + 1) from i_1 k, Int32.add_comm (pv (M 216) i 1)]
    cases decide (pv (M 216) k 1 + pv (M 216) i 1 < x) <;> rfl
  · show f_X12_pairs_27 x _ (nI i) (nI i) M = _
    unfold f_X12_pairs_27
    rw [bif_t (i_lee i), i_1]
theorem M_pairs_l {M : mM} (hn : M 216 0 = nI n) (h8 : n ≤ 8) {x : Int32} : f_X12_pairs_l21 x 0 0 M = some (prS (paB n (M 216) x), M) := by
  rw [pr_dn, sm_n (n := n) (fun k h1 h2 => sm_0 fun j hj => by unfold paB; rw [decide_eq_false (by omega)]; rfl) h8]

  unfold f_X12_pairs_l21
  refine wh_ne (fun k => (sm (fun j => sm (fun i => b01 (paB n (M 216) x i j)) j) k, nI k)) n _ (by omega) rfl ?_ ?_
  · intro k hk
    show f_X12_pairs_21 x _ (nI k) M = _
    unfold f_X12_pairs_21
    rw [m_ppl (n := n) (hn), b1_s, bif_f (i_len hk h8)]
    simp only [mhas_hs (show k < 32 by omega), gd_t (i_in (show k < 8 by omega) i_28), i_ix (show k < 2 ^ 31 by omega), i_1, dn, b1_s, b2_s, wr_e, bitE, b_or0]
    rw [M_pa_in (n := n) hn h8 hk, sm_s]
  · show f_X12_pairs_21 x _ (nI n) M = _
    unfold f_X12_pairs_21
    rw [m_ppl (n := n) (hn), b1_s, bif_t (i_lee n)]
/-- who is a person -/
def isP (n : Nat) (p : Int32) : Bool := !decide (p < 0) && !decide (nI n ≤ p)
theorem i_toInt {k : Nat} (h : k < 2 ^ 31) : (nI k).toInt = k := nI_toInt h
theorem isP_of {p : Int32} (h8 : n ≤ 8) (h : isP n p = true) : ∃ k, k < n ∧ p = nI k := by
  unfold isP at h
  rw [Bool.and_eq_true, ← dn, ← dn] at h
  have h1 := of_decide_eq_true h.1
  have h2 := of_decide_eq_true h.2
  rw [Int32.lt_iff_toInt_lt] at h1
  rw [Int32.le_iff_toInt_le, i_toInt (by omega)] at h2
  rw [show (0 : Int32).toInt = 0 from rfl] at h1
  refine ⟨p.toInt.toNat, by omega, ?_⟩
  apply Int32.toInt_inj.mp
  rw [i_toInt (by omega)]
  omega
theorem isP_nI {k : Nat} (h8 : n ≤ 8) (hk : k < n) : isP n (nI k) = true := by
  unfold isP
  rw [i_le (by omega) (by omega), decide_eq_false (nI_pos (by omega)), decide_eq_false (by omega)]
  rfl
theorem C_isP {o : Nat} (h : TR n (M 216) M o) (h8 : n ≤ 8) (ho : mTwB o = true) {p : Int32} : f_X9_isPerson o p M = some (isP n p) := by
  unfold f_X9_isPerson isP
  rw [gd_t ho, h.1]
  cases e1 : decide (p < 0)
  · cases e2 : decide ((8 : Int32) ≤ p)
    · cases decide (nI n ≤ p) <;> rfl
    · have : decide (nI n ≤ p) = true := decide_eq_true (Int32.le_trans (show nI n ≤ nI 8 from nI_le h8 (by decide)) (of_decide_eq_true e2))
      rw [this]; rfl
  · rfl
theorem C_mustP (h : Rl n M) {p : Int32} : f_X11_mustBePerson p M = some (bif isP n p then .inl () else .inr 2, M) := by
  unfold f_X11_mustBePerson
  rw [C_isP h.tr h.h8 T35, b1_s]
  cases isP n p <;> rfl
theorem M_nobody {M : mM} (hn : M 216 0 = nI n) (h8 : n ≤ 8) {p : Int32} : f_X12_nobody p M = some (!isP n p) := by
  unfold f_X12_nobody isP f_X12_in
  rw [m_ppl hn, b1_s]
  have e : decide (nI n - 1 < p) = decide (nI n ≤ p) := by
    rw [decide_eq_decide, Int32.lt_iff_toInt_lt, Int32.le_iff_toInt_le, i_toInt (by omega)]
    have : (nI n - 1).toInt = (n : Int) - 1 := by
      match n, h8 with
      | 0, _ => rfl | 1, _ => rfl | 2, _ => rfl | 3, _ => rfl | 4, _ => rfl | 5, _ => rfl | 6, _ => rfl | 7, _ => rfl | 8, _ => rfl
    rw [this]
    omega
  rw [e]
  cases decide (p < 0) <;> cases decide (nI n ≤ p) <;> rfl
end

