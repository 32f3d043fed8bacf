/-! loads: what is shared out, and how it is carried down -/
abbrev bc (s : Int32) : Int32 := f_J6_bitCount_0f7a4 s
def shK (by' each over : Int32) (b : Nat → Int32) : Nat → Int32 × (Nat → Int32)
  | 0 => (over, b)
  | k + 1 => bif hs by' k then ((shK by' each over b k).1 + (-1 : Int32), upd (shK by' each over b k).2 k ((shK by' each over b k).2 k + (bif decide ((shK by' each over b k).1 ≤ 0) then each else each + (1 : Int32)))) else shK by' each over b k
theorem shK_s (by' each over : Int32) (b : Nat → Int32) (k : Nat) : shK by' each over b (k + 1) = bif hs by' k then ((shK by' each over b k).1 + (-1 : Int32), upd (shK by' each over b k).2 k ((shK by' each over b k).2 k + (bif decide ((shK by' each over b k).1 ≤ 0) then each else each + (1 : Int32)))) else shK by' each over b k := rfl
def shS (load by' : Int32) (b : Nat → Int32) : Nat → Int32 := bif decide (bc by' = 0) then b else (shK by' (load / bc by') (rmd load (bc by')) b 8).2
theorem c_sh_l {o2 : Nat} {l1 l4 l5 : Int32} {M : mM} (ho : mA8B o2 = true) : f_X9_shareOut_l16 o2 l1 l4 l5 0 M = some ((), rs M o2 (shK l1 l4 l5 (M o2) 8).2) := by
  unfold f_X9_shareOut_l16
  refine wh_8e (fun k => ((shK l1 l4 l5 (M o2) k).1, nI k, rs M o2 (shK l1 l4 l5 (M o2) k).2)) _ ?_ ?_ ?_
  · show (l5, (0 : Int32), M) = (l5, nI 0, rs M o2 (M o2))
    rw [rs_self]
    rfl
  · intro k hk
    show f_X9_shareOut_16 o2 l1 l4 _ (nI k) _ = _
    unfold f_X9_shareOut_16 f_X9_shareOut_34
    rw [bif_f (i_8 hk), has_hs (by omega), shK_s]
    simp only [gd_t (i_in hk (show 8 < 2 ^ 31 by decide)), i_ix (show k < 2 ^ 31 by omega), wr_e, rs_at, rs_st, i_1]
    generalize shK l1 l4 l5 (M o2) k = z
    cases hs l1 k
    · rfl
    · cases h : decide (z.1 ≤ 0) <;> simp only [cond_true, cond_false, h]
  · show f_X9_shareOut_16 o2 l1 l4 _ (nI 8) _ = _
    unfold f_X9_shareOut_16
    rw [bif_t i_88]
theorem c_sh {load by' : Int32} {o2 : Nat} {M : mM} (ho : mA8B o2 = true) : f_X9_shareOut load by' o2 M = some ((), rs M o2 (shS load by' (M o2))) := by
  unfold f_X9_shareOut shS
  rw [gd_t ho, dn]
  cases h : decide (f_J6_bitCount_0f7a4 by' = 0)
  · simp only [Bool.not_false, cond_true, gd, cond_false, h]
    exact c_sh_l ho
  · simp only [Bool.not_true, cond_false, cond_true, h]
    rw [rs_self]
def carP (act : Nat → Bool) (wt by' : Nat → Int32) (b : Nat → Int32) : Nat → Nat → Int32
  | 0 => b
  | k + 1 => bif act k then shS (wt k + carP act wt by' b k k) (by' k) (carP act wt by' b k) else carP act wt by' b k
def carR (act : Nat → Nat → Bool) (wt by' : Nat → Int32) (b : Nat → Int32) : Nat → Nat → Int32
  | 0 => b
  | j + 1 => carP (act (4 - j)) wt by' (carR act wt by' b j) 8
def zr8 (b : Nat → Int32) : Nat → Int32 := fun j => if j < 8 then 0 else b j
def zrK (b : Nat → Int32) (k : Nat) : Nat → Int32 := fun j => if j < k then 0 else b j
def car (act : Nat → Nat → Bool) (wt by' : Nat → Int32) (b : Nat → Int32) : Nat → Int32 := carR act wt by' (zr8 b) 4
theorem zrK_s (b : Nat → Int32) (k : Nat) : upd (zrK b k) k 0 = zrK b (k + 1) := by
  funext j
  unfold upd zrK
  by_cases h : j = k
  · rw [if_pos h, if_pos (by omega)]
  · rw [if_neg h]
    by_cases h2 : j < k
    · rw [if_pos h2, if_pos (by omega)]
    · rw [if_neg h2, if_neg (by omega)]
theorem zrK_0 (b : Nat → Int32) : zrK b 0 = b := by funext j; exact if_neg (by omega)
theorem carP_congr {act act' : Nat → Bool} {wt wt' by1 by2 : Nat → Int32} {b : Nat → Int32} : ∀ {k : Nat}, (∀ p, p < k → act p = act' p) → (∀ p, p < k → act p = true → wt p = wt' p ∧ by1 p = by2 p) → carP act wt by1 b k = carP act' wt' by2 b k := by
  intro k
  induction k with
  | zero => intro _ _; rfl
  | succ k ih =>
    intro h1 h2
    have ih := ih (fun p hp => h1 p (by omega)) (fun p hp => h2 p (by omega))
    unfold carP
    rw [← h1 k (by omega), ih]
    cases ha : act k
    · rfl
    · obtain ⟨e1, e2⟩ := h2 k (by omega) ha
      simp only [cond_true, e1, e2]
theorem carP_n {act : Nat → Bool} {wt by' b : Nat → Int32} {n : Nat} (h : ∀ p, n ≤ p → p < 8 → act p = false) : ∀ m, n ≤ m → m ≤ 8 → carP act wt by' b m = carP act wt by' b n := by
  intro m
  induction m with
  | zero => intro h1 _; rw [show n = 0 by omega]
  | succ m ih =>
    intro h1 h2
    by_cases hm : n ≤ m
    · rw [← ih hm (by omega)]
      show (bif act m then _ else _) = _
      rw [h m hm (by omega)]
      rfl
    · rw [show n = m + 1 by omega]
theorem carR_congr {act act' : Nat → Nat → Bool} {wt wt' by1 by2 : Nat → Int32} {b : Nat → Int32} : ∀ {j : Nat}, j ≤ 4 → (∀ r p, 1 ≤ r → r ≤ 4 → p < 8 → act r p = act' r p) → (∀ r p, 1 ≤ r → r ≤ 4 → p < 8 → act r p = true → wt p = wt' p ∧ by1 p = by2 p) → carR act wt by1 b j = carR act' wt' by2 b j := by
  intro j
  induction j with
  | zero => intro _ _ _; rfl
  | succ j ih =>
    intro hj h1 h2
    unfold carR
    rw [ih (by omega) h1 h2]
    exact carP_congr (fun p hp => h1 _ p (by omega) (by omega) hp) (fun p hp => h2 _ p (by omega) (by omega) hp)
theorem car_congr {act act' : Nat → Nat → Bool} {wt wt' by1 by2 : Nat → Int32} {b : Nat → Int32} (h1 : ∀ r p, 1 ≤ r → r ≤ 4 → p < 8 → act r p = act' r p) (h2 : ∀ r p, 1 ≤ r → r ≤ 4 → p < 8 → act r p = true → wt p = wt' p ∧ by1 p = by2 p) : car act wt by1 b = car act' wt' by2 b := carR_congr (by decide) h1 h2
/-- only places below 8 are written, and what was there does not matter -/
theorem shK_out {by' each over : Int32} {b : Nat → Int32} : ∀ {k j : Nat}, k ≤ j → (shK by' each over b k).2 j = b j := by
  intro k
  induction k with
  | zero => intro j _; rfl
  | succ k ih =>
    intro j hj
    rw [shK_s]
    cases hs by' k
    · exact ih (by omega)
    · show upd _ k _ j = _
      rw [upd_ne (by omega)]
      exact ih (by omega)
theorem shS_out {load by' : Int32} {b : Nat → Int32} {j : Nat} (h : 8 ≤ j) : shS load by' b j = b j := by
  unfold shS
  cases decide (bc by' = 0)
  · exact shK_out h
  · rfl
theorem carP_out {act : Nat → Bool} {wt by' b : Nat → Int32} {j : Nat} (h : 8 ≤ j) : ∀ k, carP act wt by' b k j = b j := by
  intro k
  induction k with
  | zero => rfl
  | succ k ih =>
    unfold carP
    cases act k
    · exact ih
    · show shS _ _ _ j = _
      rw [shS_out h]
      exact ih
theorem carR_out {act : Nat → Nat → Bool} {wt by' b : Nat → Int32} {j : Nat} (h : 8 ≤ j) : ∀ r, carR act wt by' b r j = b j := by
  intro r
  induction r with
  | zero => rfl
  | succ r ih => unfold carR; rw [carP_out h]; exact ih
theorem car_out {act : Nat → Nat → Bool} {wt by' b : Nat → Int32} {j : Nat} (h : 8 ≤ j) : car act wt by' b j = b j := by
  unfold car
  rw [carR_out h]
  exact if_neg (by omega)
