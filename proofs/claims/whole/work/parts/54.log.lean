/-! a row more in the log -/
def tellE (W : Nat → Int32) (p : Nat) (r why bore : Int32) (w : Nat) : Int32 := match w with
  | 0 => W 4
  | 1 => W 3
  | 2 => nI p
  | 3 => r
  | 4 => why
  | _ => bore
def tellW (W : Nat → Int32) (p : Nat) (r why bore : Int32) : Nat → Int32 := fun k => if k = 6 then mMin 60 (W 6 + 1) else if 64 ≤ k ∧ k < 424 then (if k < 70 then tellE W p r why bore (k - 64) else W (k - 6)) else W k
section
variable {W : Nat → Int32} {p : Nat} {r why bore : Int32}
theorem tW_6 : tellW W p r why bore 6 = mMin 60 (W 6 + 1) := if_pos rfl
theorem tW_o {k : Nat} (h6 : k ≠ 6) (h : k < 64 ∨ 424 ≤ k) : tellW W p r why bore k = W k := by
  unfold tellW
  rw [if_neg h6, if_neg (by omega)]
theorem tW_e {w : Nat} (h : w < 6) : tellW W p r why bore (64 + w) = tellE W p r why bore w := by
  unfold tellW
  rw [if_neg (by omega), if_pos (by omega), if_pos (by omega), show 64 + w - 64 = w by omega]
theorem tW_s {k : Nat} (h : 70 ≤ k) (h2 : k < 424) : tellW W p r why bore k = W (k - 6) := by
  unfold tellW
  rw [if_neg (by omega), if_pos (by omega), if_neg (by omega)]
theorem tW_pv {q c : Nat} (hq : q < 8) (hc : c < 7) : pv (tellW W p r why bore) q c = pv W q c := tW_o (by omega) (by omega)
theorem mMin_n {a b : Nat} (ha : a < 2 ^ 31) (hb : b < 2 ^ 31) : mMin (nI a) (nI b) = nI (min a b) := by
  rw [mMin_b, i_le ha hb]
  by_cases h : a ≤ b
  · rw [decide_eq_true h, Nat.min_eq_left h]; rfl
  · rw [decide_eq_false h, Nat.min_eq_right (by omega)]; rfl
theorem mMax_n {a b : Nat} (ha : a < 2 ^ 31) (hb : b < 2 ^ 31) : mMax (nI a) (nI b) = nI (max a b) := by
  rw [mMax_b, i_le hb ha]
  by_cases h : b ≤ a
  · rw [decide_eq_true h, Nat.max_eq_left h]; rfl
  · rw [decide_eq_false h, Nat.max_eq_right (by omega)]; rfl
/-- the six places of a row -/
def six6 (A : Nat → Int32) (x : Nat) (a0 a1 a2 a3 a4 a5 : Int32) : Nat → Int32 := upd (upd (upd (upd (upd (upd A x a0) (x + 1) a1) (x + 2) a2) (x + 3) a3) (x + 4) a4) (x + 5) a5
theorem six_out {A : Nat → Int32} {x k : Nat} {a0 a1 a2 a3 a4 a5 : Int32} (h : k < x ∨ x + 6 ≤ k) : six6 A x a0 a1 a2 a3 a4 a5 k = A k := by
  unfold six6
  rw [upd_ne (by omega), upd_ne (by omega), upd_ne (by omega), upd_ne (by omega), upd_ne (by omega), upd_ne (by omega)]
theorem six_in {A : Nat → Int32} {x w : Nat} (hw : w < 6) : six6 A x (W 4) (W 3) (nI p) r why bore (x + w) = tellE W p r why bore w := by
  unfold six6
  match w, hw with
  | 0, _ => rw [upd_ne (by omega), upd_ne (by omega), upd_ne (by omega), upd_ne (by omega), upd_ne (by omega)]; exact upd_at _ _ _
  | 1, _ => rw [upd_ne (by omega), upd_ne (by omega), upd_ne (by omega), upd_ne (by omega)]; exact upd_at _ _ _
  | 2, _ => rw [upd_ne (by omega), upd_ne (by omega), upd_ne (by omega)]; exact upd_at _ _ _
  | 3, _ => rw [upd_ne (by omega), upd_ne (by omega)]; exact upd_at _ _ _
  | 4, _ => rw [upd_ne (by omega)]; exact upd_at _ _ _
  | 5, _ => exact upd_at _ _ _
theorem C_add {M : mM} {g : Nat} (hg : mLgB g = true) (h : LR W M g) : ∃ M1, f_X2_add g (W 4) (W 3) (nI p) r why bore M = some ((), M1) ∧ LR (tellW W p r why bore) M1 g ∧ ∀ z, z ≠ g → z ≠ g + 1 → M1 z = M z := by
  obtain ⟨x, c, hx, hc, h1, h2, h3, h4⟩ := h
  have b0 : (nI x) * (6 : Int32) = nI (x * 6) := by rw [show (6 : Int32) = nI 6 from rfl, pk_mul]
  have e1 : f_X2_add g (W 4) (W 3) (nI p) r why bore M = some ((), mst (mst (rs M (g + 1) (six6 (M (g + 1)) (x * 6) (W 4) (W 3) (nI p) r why bore)) g 1 (nI ((x + 1) % 60))) g 2 (nI (min 60 (c + 1)))) := by
    unfold f_X2_add
    have c1 : decide (nI (x * 6) < 0) = false := decide_eq_false (nI_pos (by omega))
    have c2 : decide (nI (x * 6) ≤ (nI 360) - (6 : Int32)) = true := by
      rw [show (nI 360) - (6 : Int32) = nI 354 from rfl, i_le (by omega) (by decide)]
      exact decide_eq_true (by omega)
    rw [gd_t hg, h1, b0, c1, cond_false, c2, cond_true]
    simp only [show (1 : Int32) = nI 1 from rfl, show (2 : Int32) = nI 2 from rfl, show (3 : Int32) = nI 3 from rfl, show (4 : Int32) = nI 4 from rfl, show (5 : Int32) = nI 5 from rfl, nI_add, gd_t (i_in (show x * 6 < 360 by omega) (show 360 < 2 ^ 31 by decide)), gd_t (i_in (show x * 6 + 1 < 360 by omega) (show 360 < 2 ^ 31 by decide)), gd_t (i_in (show x * 6 + 2 < 360 by omega) (show 360 < 2 ^ 31 by decide)), gd_t (i_in (show x * 6 + 3 < 360 by omega) (show 360 < 2 ^ 31 by decide)), gd_t (i_in (show x * 6 + 4 < 360 by omega) (show 360 < 2 ^ 31 by decide)), gd_t (i_in (show x * 6 + 5 < 360 by omega) (show 360 < 2 ^ 31 by decide)), i_ix (show x * 6 < 2 ^ 31 by omega), i_ix (show x * 6 + 1 < 2 ^ 31 by omega), i_ix (show x * 6 + 2 < 2 ^ 31 by omega), i_ix (show x * 6 + 3 < 2 ^ 31 by omega), i_ix (show x * 6 + 4 < 2 ^ 31 by omega), i_ix (show x * 6 + 5 < 2 ^ 31 by omega), wr_e]
    have eN : mst (mst (mst (mst (mst (mst M (g + 1) (x * 6) (W 4)) (g + 1) (x * 6 + 1) (W 3)) (g + 1) (x * 6 + 2) (nI p)) (g + 1) (x * 6 + 3) r) (g + 1) (x * 6 + 4) why) (g + 1) (x * 6 + 5) bore = rs M (g + 1) (six6 (M (g + 1)) (x * 6) (W 4) (W 3) (nI p) r why bore) := by
      rw [mst_rs M, rs_st, rs_st, rs_st, rs_st, rs_st]
      rfl
    rw [eN]
    have g1 : rs M (g + 1) (six6 (M (g + 1)) (x * 6) (W 4) (W 3) (nI p) r why bore) g 1 = nI x := by rw [rs_ne (by omega)]; exact h1
    have fin : ∀ y, f_X2_add_68 g y (rs M (g + 1) (six6 (M (g + 1)) (x * 6) (W 4) (W 3) (nI p) r why bore)) = some ((), mst (mst (rs M (g + 1) (six6 (M (g + 1)) (x * 6) (W 4) (W 3) (nI p) r why bore)) g 1 y) g 2 (nI (min 60 (c + 1)))) := fun y => by
      unfold f_X2_add_68
      rw [wr_e, wr_e, mst_nk (show 2 ≠ 1 by decide), rs_ne (show g ≠ g + 1 by omega), h2, nI_1, show (60 : Int32) = nI 60 from rfl, mMin_n (by decide) (by omega)]
    rw [g1, nI_add, show (60 : Int32) = nI 60 from rfl, i_le (by decide) (by omega), fin, fin]
    by_cases hx2 : 60 ≤ x + 1
    · rw [decide_eq_true hx2, cond_true, show (x + 1) % 60 = 0 by omega]
      rfl
    · rw [decide_eq_false hx2, cond_false, show (x + 1) % 60 = x + 1 by omega]
  refine ⟨_, e1, ⟨(x + 1) % 60, min 60 (c + 1), Nat.mod_lt _ (by decide), Nat.min_le_left _ _, ?_, ?_, ?_, fun a ha w hw => ?_⟩, fun z z1 z2 => by rw [mst_no z1, mst_no z1, rs_ne z2]⟩
  · rw [mst_nk (by decide), mst_oo]
  · rw [mst_oo]
  · rw [tW_6, h3, nI_1, show (60 : Int32) = nI 60 from rfl, mMin_n (by decide) (by omega)]
  · rw [mst_no (show g + 1 ≠ g by omega), mst_no (show g + 1 ≠ g by omega), rs_at]
    by_cases ha0 : a = 0
    · subst ha0
      rw [show ((x + 1) % 60 + 59 - 0) % 60 * 6 + w = x * 6 + w by omega, six_in hw, show 64 + 6 * 0 + w = 64 + w by omega, tW_e hw]
    · have e2 : ((x + 1) % 60 + 59 - a) % 60 = (x + 59 - (a - 1)) % 60 := by omega
      have e3 : (x + 59 - (a - 1)) % 60 ≠ x := by omega
      have e4 : (x + 59 - (a - 1)) % 60 < 60 := Nat.mod_lt _ (by decide)
      rw [e2, six_out (by omega), h4 (a - 1) (by omega) w hw, tW_s (by omega) (by omega), show 64 + 6 * a + w - 6 = 64 + 6 * (a - 1) + w by omega]
/-- the reference's -/
def shL (W : Nat → Int32) (t : Nat) : Nat → Int32 := fun i => if 64 + t < i ∧ i < 424 then W (i - 6) else W i
theorem m_tells {M : mM} (hp : p < 8) (e : M 216 = W) : f_X12_tells (nI p) r why M = some ((), rs M 216 (tellW W p r why (M 221 p))) := by
  unfold f_X12_tells f_X12_tells_l2
  refine wh_ne (fun j => (nI (359 - j), rs M 216 (shL W (359 - j)))) 354 _ (by decide) ?_ (fun j hj => ?_) ?_
  · have : shL W (359 - 0) = W := by
      funext i
      exact if_neg (by omega)
    rw [this, ← e, rs_self]
    rfl
  · show f_X12_tells_2 (nI p) r why (nI (359 - j)) (rs M 216 (shL W (359 - j))) = _
    unfold f_X12_tells_2
    have e6 : decide (nI (359 - j) < (6 : Int32)) = false := by
      rw [show (6 : Int32) = nI 6 from rfl, i_lt (by omega) (by decide)]
      exact decide_eq_false (by omega)
    have a1 : (64 : Int32) + nI (359 - j) = nI (64 + (359 - j)) := nI_add 64 _
    have a2 : nI (64 + (359 - j)) - (6 : Int32) = nI (58 + (359 - j)) := by
      rw [show (6 : Int32) = nI 6 from rfl, pk_sub (by omega), show 64 + (359 - j) - 6 = 58 + (359 - j) by omega]
    have a3 : nI (359 - j) + (-1 : Int32) = nI (359 - (j + 1)) := by
      rw [show 359 - j = 359 - (j + 1) + 1 by omega, i_m1]
    rw [e6, cond_false, a1, a2, a3, gd_t (i_in (by omega) (by decide)), gd_t (i_in (by omega) (by decide)), i_ix (by omega), i_ix (by omega), wr_e, rs_st, rs_at]
    have : upd (shL W (359 - j)) (64 + (359 - j)) (shL W (359 - j) (58 + (359 - j))) = shL W (359 - (j + 1)) := by
      funext i
      unfold shL
      by_cases h : i = 64 + (359 - j)
      · subst h
        rw [upd_at, if_neg (by omega), if_pos (by omega), show 64 + (359 - j) - 6 = 58 + (359 - j) by omega]
      · rw [upd_ne h]
        by_cases h2 : 64 + (359 - j) < i ∧ i < 424
        · rw [if_pos h2, if_pos (by omega)]
        · rw [if_neg h2, if_neg (by omega)]
    rw [this]
  · show f_X12_tells_2 (nI p) r why (nI (359 - 354)) (rs M 216 (shL W (359 - 354))) = _
    unfold f_X12_tells_2
    rw [show decide (nI (359 - 354) < (6 : Int32)) = true from rfl, cond_true, show ix (64 : Int32) = 64 from rfl, show ix (65 : Int32) = 65 from rfl, show ix (66 : Int32) = 66 from rfl, show ix (67 : Int32) = 67 from rfl, show ix (68 : Int32) = 68 from rfl, show ix (69 : Int32) = 69 from rfl, show ix (6 : Int32) = 6 from rfl, show ix (4 : Int32) = 4 from rfl, show ix (3 : Int32) = 3 from rfl]
    simp only [wr_e, gd_t (i_in hp i_28), i_ix (show p < 2 ^ 31 by omega), rs_st, rs_at, rs_ne (show 221 ≠ 216 by decide)]
    have h64 : ∀ k, (k ≤ 63 ∨ 424 ≤ k) → shL W (359 - 354) k = W k := fun k hk => if_neg (by omega)
    have : upd (upd (upd (upd (upd (upd (upd (shL W (359 - 354)) 64 (shL W (359 - 354) 4)) 65 (upd (shL W (359 - 354)) 64 (shL W (359 - 354) 4) 3)) 66 (nI p)) 67 r) 68 why) 69 (M 221 p)) 6 (mMin 60 (upd (upd (upd (upd (upd (upd (shL W (359 - 354)) 64 (shL W (359 - 354) 4)) 65 (upd (shL W (359 - 354)) 64 (shL W (359 - 354) 4) 3)) 66 (nI p)) 67 r) 68 why) 69 (M 221 p) 6 + 1)) = tellW W p r why (M 221 p) := by
      funext k
      by_cases h6 : k = 6
      · subst h6
        rw [upd_at, tW_6, upd_ne (by decide), upd_ne (by decide), upd_ne (by decide), upd_ne (by decide), upd_ne (by decide), upd_ne (by decide), h64 6 (by decide)]
      · rw [upd_ne h6]
        by_cases h70 : 64 ≤ k ∧ k < 70
        · have : k = 64 ∨ k = 65 ∨ k = 66 ∨ k = 67 ∨ k = 68 ∨ k = 69 := by omega
          rcases this with rfl | rfl | rfl | rfl | rfl | rfl
          · rw [upd_ne (by decide), upd_ne (by decide), upd_ne (by decide), upd_ne (by decide), upd_ne (by decide), upd_at, h64 4 (by decide)]
            exact (tW_e (w := 0) (by decide)).symm
          · rw [upd_ne (by decide), upd_ne (by decide), upd_ne (by decide), upd_ne (by decide), upd_at, upd_ne (by decide), h64 3 (by decide)]
            exact (tW_e (w := 1) (by decide)).symm
          · rw [upd_ne (by decide), upd_ne (by decide), upd_ne (by decide), upd_at]
            exact (tW_e (w := 2) (by decide)).symm
          · rw [upd_ne (by decide), upd_ne (by decide), upd_at]
            exact (tW_e (w := 3) (by decide)).symm
          · rw [upd_ne (by decide), upd_at]
            exact (tW_e (w := 4) (by decide)).symm
          · rw [upd_at]
            exact (tW_e (w := 5) (by decide)).symm
        · rw [upd_ne (by omega), upd_ne (by omega), upd_ne (by omega), upd_ne (by omega), upd_ne (by omega), upd_ne (by omega)]
          by_cases h2 : 70 ≤ k ∧ k < 424
          · rw [tW_s h2.1 h2.2]
            exact if_pos (by omega)
          · rw [tW_o h6 (by omega)]
            exact if_neg (by omega)
    rw [this]
end
