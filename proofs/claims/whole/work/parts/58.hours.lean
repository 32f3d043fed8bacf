/-! draws, hours -/
theorem wh_1 {σ ρ : Type} {b : σ → Option (ρ ⊕ σ)} {s : σ} {r : ρ} (h : b s = some (.inl r)) : wh 100000 b s = some r := by
  show wh (99999 + 1) b s = _
  unfold wh
  rw [h]
theorem ush_hs {x : Int32} {j : Nat} (hj : j < 32) : hs (ushr x 16) j = (decide (j < 16) && hs x (j + 16)) := by
  have e : (ushr x 16).toBitVec = x.toBitVec >>> 16 := rfl
  unfold hs
  rw [e, BitVec.getLsbD_ushiftRight]
  by_cases h : j < 16
  · rw [decide_eq_true h, Bool.true_and, Nat.add_comm]
  · rw [decide_eq_false h, Bool.false_and]
    exact BitVec.getLsbD_of_ge _ _ (by omega)
theorem ssh_hs {x : Int32} {j : Nat} (hj : j < 16) : hs (x >>> ((16 : Int32) &&& (31 : Int32))) j = hs x (j + 16) := by
  have e : (x >>> ((16 : Int32) &&& (31 : Int32))).toBitVec = x.toBitVec.sshiftRight 16 := rfl
  unfold hs
  rw [e, BitVec.getLsbD_sshiftRight]
  rw [decide_eq_false (show ¬ 32 ≤ j by omega), if_pos (by omega), Bool.not_false, Bool.true_and, Nat.add_comm]
theorem hs_m15 {j : Nat} (hj : j < 32) : hs 32767 j = decide (j < 15) := (by decide +kernel : ∀ j, j < 32 → hs 32767 j = decide (j < 15)) j hj
theorem draw_eq (x : Int32) : (ushr x 16) &&& 32767 = (x >>> ((16 : Int32) &&& (31 : Int32))) &&& 32767 := by
  refine hs_ext fun j hj => ?_
  rw [hs_and, hs_and, hs_m15 hj, ush_hs hj]
  by_cases h : j < 15
  · rw [ssh_hs (by omega), decide_eq_true (show j < 16 by omega), Bool.true_and]
  · rw [decide_eq_false h, Bool.and_false, Bool.and_false]
def seedN (s : Int32) : Int32 := (1103515245 : Int32) * s + 12345
def drwV (s : Int32) : Int32 := rmd ((ushr s 16) &&& 32767) 100
def drK (n : Nat) (W : Nat → Int32) : Nat → Nat → Int32
  | 0 => W
  | k + 1 => bif decide (k < n) && hoB (drK n W k) k then (bif decide (lawV n (upd (drK n W k) 7 (seedN (drK n W k 7))) 2 k ≤ drwV (seedN (drK n W k 7))) then upd (drK n W k) 7 (seedN (drK n W k 7)) else upd (upd (drK n W k) 7 (seedN (drK n W k 7))) (8 + 7 * k + 3) 1) else drK n W k
theorem drK_s (n : Nat) (W : Nat → Int32) (k : Nat) : drK n W (k + 1) = bif decide (k < n) && hoB (drK n W k) k then (bif decide (lawV n (upd (drK n W k) 7 (seedN (drK n W k 7))) 2 k ≤ drwV (seedN (drK n W k 7))) then upd (drK n W k) 7 (seedN (drK n W k 7)) else upd (upd (drK n W k) 7 (seedN (drK n W k 7))) (8 + 7 * k + 3) 1) else drK n W k := rfl
section
variable {n : Nat} {W : Nat → Int32}
theorem dr_h {j : Nat} (h7 : j ≠ 7) (hj : j < 8 ∨ 64 ≤ j) : ∀ k, k ≤ 8 → drK n W k j = W j := by
  intro k
  induction k with
  | zero => intro _; rfl
  | succ k ih =>
    intro hk
    have ih := ih (by omega)
    rw [drK_s]
    cases decide (k < n) && hoB (drK n W k) k
    · exact ih
    · rw [cond_true]
      cases decide (lawV n (upd (drK n W k) 7 (seedN (drK n W k 7))) 2 k ≤ drwV (seedN (drK n W k 7)))
      · rw [cond_false, upd_ne (by omega), upd_ne h7]; exact ih
      · rw [cond_true, upd_ne h7]; exact ih
theorem dr_n {k : Nat} (h1 : n ≤ k) : drK n W k = drK n W n := by
  induction k with
  | zero => rw [show n = 0 by omega]
  | succ k ih =>
    by_cases h : n ≤ k
    · rw [drK_s, decide_eq_false (show ¬ k < n by omega), Bool.false_and, cond_false]
      exact ih h
    · rw [show n = k + 1 by omega]
theorem eqP_7 {v : Int32} : eqP W (upd W 7 v) := fun p c hp hc => pv_uo hp hc (by decide)
theorem WF.seed (hw : WF n W) {v : Int32} : WF n (upd W 7 v) := hw.hd eqP_7 (upd_ne (by decide)) (by rw [upd_ne (by decide)]; exact hw.2.2.2.2.1) (by rw [upd_ne (by decide)]; exact hw.2.2.2.2.2.1) (by rw [upd_ne (by decide)]; exact hw.2.2.2.2.2.2.1) (by rw [upd_ne (by decide)]; exact hw.2.2.2.2.2.2.2)
theorem WF.dr (hw : WF n W) : ∀ k, k ≤ 8 → WF n (drK n W k) := by
  intro k
  induction k with
  | zero => intro _; exact hw
  | succ k ih =>
    intro hk
    have ih := ih (by omega)
    rw [drK_s]
    cases e : decide (k < n) && hoB (drK n W k) k
    · exact ih
    · rw [Bool.and_eq_true] at e
      rw [cond_true]
      cases decide (lawV n (upd (drK n W k) 7 (seedN (drK n W k 7))) 2 k ≤ drwV (seedN (drK n W k 7)))
      · exact ih.seed.slp (of_decide_eq_true e.1) (Or.inr rfl)
      · exact ih.seed
/-- SEED alone -/
theorem TS.seed {M : mM} {o : Nat} {v : Int32} (h : TS n W M o) (h8 : n ≤ 8) : TS n (upd W 7 v) (mst M o 6 v) o := by
  obtain ⟨-, -, -, a3, a4, a5, a6, a7, -⟩ := id h.1
  exact h.hd h8 eqP_7 (mst_nk (by decide)) (mst_nk (by decide)) (mst_nk (by decide)) (by rw [mst_nk (by decide), upd_ne (by decide)]; exact a3) (by rw [mst_nk (by decide), upd_ne (by decide)]; exact a4) (by rw [mst_nk (by decide), upd_ne (by decide)]; exact a5) (by rw [mst_oo, upd_at]) (by rw [mst_nk (by decide), upd_ne (by decide)]; exact a7) (mst_nk (by decide)) (fun z z1 z2 => mst_no (by omega)) (upd_ne (by decide)) (fun k h1 h2 => upd_ne (by omega))
theorem C_draws (hw : WF n W) {M : mM} {o lo : Nat} (h : TS n W M o) (hL0 : LW W M lo) (hl : mLwB lo = true) (hT : mTwB o = true) (hsep : o + 11 < lo ∨ lo + 5 < o) : ∃ M1, f_X9_drawSleep o lo M = some ((), M1) ∧ TS n (drK n W n) M1 o ∧ ∀ z, (z < o ∨ o + 11 < z) → z ≠ lo + 5 → M1 z = M z := by
  have h8 := hw.2.1
  unfold f_X9_drawSleep f_X9_drawSleep_l2
  rw [gd_t hT, gd_t hl]
  refine wh_V (fun k (q : Int32 × mM) => q.1 = nI k ∧ TS n (drK n W k) q.2 o ∧ ∀ z, (z < o ∨ o + 11 < z) → z ≠ lo + 5 → q.2 z = M z) _ _ 8 100000 _ ⟨rfl, h, fun _ _ _ => rfl⟩ (fun k hk q hq => ?_) (fun q hq => ?_) (by decide)
  · obtain ⟨q1, M'⟩ := q
    obtain ⟨rfl, g2, g3⟩ := hq
    dsimp only at g2 g3
    show ∃ s', f_X9_drawSleep_2 o lo (nI k) M' = some (.inr s') ∧ _
    unfold f_X9_drawSleep_2
    rw [bif_f (i_8 hk), T_hold hT, g2.1.ho, b1_s, has_hs (by omega), hs_hos hk, i_1, drK_s]
    cases hh : decide (k < n) && hoB (drK n W k) k
    · exact ⟨_, rfl, rfl, g2, g3⟩
    · rw [Bool.and_eq_true] at hh
      have hkn := of_decide_eq_true hh.1
      have hwk := hw.dr k (by omega)
      rw [cond_true, cond_true]
      have e7 : M' o 6 = drK n W k 7 := g2.1.2.2.2.2.2.2.1
      have t1 := g2.seed (v := seedN (drK n W k 7)) h8
      have ed : f_X9_draw o M' = some ((ushr (seedN (drK n W k 7)) 16) &&& 32767, mst M' o 6 (seedN (drK n W k 7))) := by
        unfold f_X9_draw
        rw [gd_t hT, wr_e, mst_oo, e7]
        rfl
      have hLk : LW (upd (drK n W k) 7 (seedN (drK n W k 7))) (mst M' o 6 (seedN (drK n W k 7))) lo := (hL0.eq2 (W' := upd (drK n W k) 7 (seedN (drK n W k 7))) (by rw [upd_ne (by decide), dr_h (by decide) (by decide) k (by omega)]) (fun j h1 _ => by rw [upd_ne (by omega), dr_h (by omega) (by omega) k (by omega)])).rf fun j hj => by rw [mst_no (by omega), g3 _ (by omega) (by omega)]
      obtain ⟨M2, a1, a2⟩ := C_amount hwk.seed (p := k) (kind := 2) t1 hLk hl hT hkn hsep (Or.inr (Or.inr rfl))
      have t2 : TS n (upd (drK n W k) 7 (seedN (drK n W k 7))) M2 o := t1.in216 h8 fun z g1 g2 => a2 z (by omega)
      have f2 : ∀ z, (z < o ∨ o + 11 < z) → z ≠ lo + 5 → M2 z = M z := fun z z1 z2 => by rw [a2 z z2, mst_no (by omega), g3 z z1 z2]
      rw [ed, b2_s, a1, b2_s, show rmd ((ushr (seedN (drK n W k 7)) 16) &&& 32767) 100 = drwV (seedN (drK n W k 7)) from rfl]
      cases decide (lawV n (upd (drK n W k) 7 (seedN (drK n W k 7))) 2 k ≤ drwV (seedN (drK n W k 7)))
      · rw [cond_false, cond_false, wr_e]
        have t3 := t2.1.sl h8 hkn (x := M2 o 2 ||| f_X11_bit (nI k)) (v := 1) (by rw [t2.1.2.2.1, sl_1 h8 hkn])
        obtain ⟨M3, b1, b2, b3, b4⟩ := t3.settle hT
        rw [b1, b2_s]
        exact ⟨_, rfl, rfl, b2, fun z z1 z2 => by dsimp only; rw [b3 z (by omega) (by omega), mst_no (by omega), f2 z z1 z2]⟩
      · exact ⟨_, rfl, rfl, t2, f2⟩
  · obtain ⟨q1, M'⟩ := q
    obtain ⟨rfl, g2, g3⟩ := hq
    dsimp only at g2 g3
    refine ⟨M', ?_, by rw [← dr_n h8]; exact g2, g3⟩
    show f_X9_drawSleep_2 o lo (nI 8) M' = _
    unfold f_X9_drawSleep_2
    rw [bif_t i_88]
def hrW (W : Nat → Int32) : Nat → Int32 := bif decide (W 3 + 1 < 24) then upd W 3 (W 3 + 1) else upd (upd W 3 0) 4 (mMin 9999 (W 4 + 1))
def preW (n : Nat) (W : Nat → Int32) (dr : Bool) : Nat → Int32 := bif dr then drK n (tiK n W n) n else tiK n W n
def hourW (n : Nat) (W : Nat → Int32) (dr : Bool) : Nat → Int32 := hrW (falW n (preW n W dr))
def hourF (n : Nat) (W : Nat → Int32) (dr : Bool) : Nat := fF n (preW n W dr) (fK n (preW n W dr))
theorem eqP_hr : eqP W (hrW W) := fun p c hp hc => by
  unfold hrW
  cases decide (W 3 + 1 < 24)
  · rw [cond_false, pv_uo hp hc (by decide), pv_uo hp hc (by decide)]
  · rw [cond_true, pv_uo hp hc (by decide)]
theorem hr_o {k : Nat} (h3 : k ≠ 3) (h4 : k ≠ 4) : hrW W k = W k := by
  unfold hrW
  cases decide (W 3 + 1 < 24)
  · rw [cond_false, upd_ne h4, upd_ne h3]
  · rw [cond_true, upd_ne h3]
theorem WF.hr (hw : WF n W) : WF n (hrW W) := by
  obtain ⟨x, hx, ex⟩ := hw.2.2.2.2.2.1
  obtain ⟨y, hy, ey⟩ := hw.2.2.2.2.2.2.1
  refine hw.hd eqP_hr (hr_o (by decide) (by decide)) (by rw [hr_o (by decide) (by decide)]; exact hw.2.2.2.2.1) ?_ ?_ (by rw [hr_o (by decide) (by decide)]; exact hw.2.2.2.2.2.2.2)
  · unfold hrW
    cases e : decide (W 3 + 1 < 24)
    · rw [cond_false, upd_ne (by decide), upd_at]
      exact ⟨0, by omega, rfl⟩
    · rw [cond_true, upd_at, ex, nI_1]
      rw [ex, nI_1, show (24 : Int32) = nI 24 from rfl, i_lt (by omega) (by decide)] at e
      have := of_decide_eq_true e
      exact ⟨x + 1, by omega, rfl⟩
  · unfold hrW
    cases decide (W 3 + 1 < 24)
    · rw [cond_false, upd_at, ey, nI_1, show (9999 : Int32) = nI 9999 from rfl, mMin_n (by decide) (by omega)]
      exact ⟨_, Nat.min_le_left _ _, rfl⟩
    · rw [cond_true, upd_ne (by decide)]
      exact ⟨y, hy, ey⟩
theorem WF.pre (hw : WF n W) {M : mM} {lo : Nat} (hL : LW W M lo) {dr : Bool} : WF n (preW n W dr) := by
  unfold preW
  cases dr
  · exact hw.ti hL
  · exact (hw.ti hL).dr n hw.2.1
theorem pre_o (h8 : n ≤ 8) {dr : Bool} {k : Nat} (h7 : k ≠ 7) (hk : k < 8 ∨ 64 ≤ k) : preW n W dr k = W k := by
  unfold preW
  cases dr
  · exact ti_o hk
  · rw [cond_true, dr_h h7 hk n h8, ti_o hk]
theorem WF.hour (hw : WF n W) {M : mM} {lo : Nat} (hL : LW W M lo) {dr : Bool} : WF n (hourW n W dr) := ((hw.pre hL).fW _).hr
theorem hour_o (h8 : n ≤ 8) {dr : Bool} {k : Nat} (hk : k = 2 ∨ 424 ≤ k) : hourW n W dr k = W k := by
  unfold hourW
  rw [hr_o (by omega) (by omega)]
  unfold falW
  rw [fW_h h8 (by omega) (by omega), pre_o h8 (by omega) (by omega)]
theorem LW.hour {M : mM} {lo : Nat} (hL : LW W M lo) (h8 : n ≤ 8) {dr : Bool} : LW (hourW n W dr) M lo := hL.eq2 (hour_o h8 (Or.inl rfl)) (fun k h1 _ => hour_o h8 (Or.inr h1))
theorem hour_st (h8 : n ≤ 8) {dr : Bool} : stB n (hourW n W dr) (fun _ => 0) = true := by
  unfold hourW
  rw [eqP_hr.st]
  exact fK_st h8
/-- an hour, by the class -/
theorem C_hour (hw : WF n W) {M : mM} {o lo : Nat} {dr : Bool} (h : TS n W M o) (hL : LW W M lo) (hl : mLwB lo = true) (hT : mTwB o = true) (hsep : o + 11 < lo ∨ lo + 5 < o) : ∃ M1, f_X9_passHour o lo dr M = some (nI (hourF n W dr), M1) ∧ TS n (hourW n W dr) M1 o ∧ ∀ z, (z < o ∨ o + 11 < z) → z ≠ lo + 5 → M1 z = M z := by
  have h8 := hw.2.1
  have fin : ∀ N, TS n (preW n W dr) N o → (∀ z, (z < o ∨ o + 11 < z) → z ≠ lo + 5 → N z = M z) → ∃ M1, f_X9_passHour_20 o lo N = some (nI (hourF n W dr), M1) ∧ TS n (hourW n W dr) M1 o ∧ ∀ z, (z < o ∨ o + 11 < z) → z ≠ lo + 5 → M1 z = M z := fun N hN fN => by
    obtain ⟨M1, a1, a2, a3, a4, a5⟩ := C_collapse (hw.pre hL (dr := dr)) hN.1 hT
    have hwf := (hw.pre hL (dr := dr)).fW (fK n (preW n W dr))
    obtain ⟨x, hx, ex⟩ := hwf.2.2.2.2.2.1
    obtain ⟨-, -, -, b3, b4, b5, b6, b7, -⟩ := id a2.1
    unfold f_X9_passHour_20
    rw [a1, b2_s, wr_e, mst_oo, b3]
    have ex' : falW n (preW n W dr) 3 = nI x := ex
    have fr : ∀ N' : mM, (∀ z, z ≠ o → N' z = M1 z) → ∀ z, (z < o ∨ o + 11 < z) → z ≠ lo + 5 → N' z = M z := fun N' hN' z z1 z2 => by rw [hN' z (by omega), a5 z z1, fN z z1 z2]
    unfold hourW hrW
    cases e : decide (falW n (preW n W dr) 3 + 1 < 24)
    · rw [cond_false, cond_false, wr_e, wr_e]
      have e4 : mst (mst M1 o 3 (falW n (preW n W dr) 3 + 1)) o 3 0 o 4 = falW n (preW n W dr) 4 := by rw [mst_nk (by decide), mst_nk (by decide), b4]
      rw [e4]
      refine ⟨_, rfl, a2.hd h8 (fun p c hp hc => by rw [pv_uo hp hc (by decide), pv_uo hp hc (by decide)]) ?_ ?_ ?_ ?_ ?_ ?_ ?_ ?_ ?_ (fun z z1 z2 => ?_) ?_ (fun k h1 h2 => ?_), fr _ fun z hz => ?_⟩
      · rw [mst_nk (by decide), mst_nk (by decide), mst_nk (by decide)]
      · rw [mst_nk (by decide), mst_nk (by decide), mst_nk (by decide)]
      · rw [mst_nk (by decide), mst_nk (by decide), mst_nk (by decide)]
      · rw [mst_nk (by decide), mst_oo, upd_ne (by decide), upd_at]
      · rw [mst_oo, upd_at]
      · rw [mst_nk (by decide), mst_nk (by decide), mst_nk (by decide), upd_ne (by decide), upd_ne (by decide), b5]
      · rw [mst_nk (by decide), mst_nk (by decide), mst_nk (by decide), upd_ne (by decide), upd_ne (by decide), b6]
      · rw [mst_nk (by decide), mst_nk (by decide), mst_nk (by decide), upd_ne (by decide), upd_ne (by decide), b7]
      · rw [mst_nk (by decide), mst_nk (by decide), mst_nk (by decide)]
      · rw [mst_no (by omega), mst_no (by omega), mst_no (by omega)]
      · rw [upd_ne (by decide), upd_ne (by decide)]
      · rw [upd_ne (by omega), upd_ne (by omega)]
      · rw [mst_no hz, mst_no hz, mst_no hz]
    · rw [cond_true, cond_true]
      refine ⟨_, rfl, a2.hd h8 (fun p c hp hc => pv_uo hp hc (by decide)) ?_ ?_ ?_ ?_ ?_ ?_ ?_ ?_ ?_ (fun z z1 z2 => ?_) ?_ (fun k h1 h2 => ?_), fr _ fun z hz => ?_⟩
      · rw [mst_nk (by decide)]
      · rw [mst_nk (by decide)]
      · rw [mst_nk (by decide)]
      · rw [mst_oo, upd_at]
      · rw [mst_nk (by decide), upd_ne (by decide), b4]
      · rw [mst_nk (by decide), upd_ne (by decide), b5]
      · rw [mst_nk (by decide), upd_ne (by decide), b6]
      · rw [mst_nk (by decide), upd_ne (by decide), b7]
      · rw [mst_nk (by decide)]
      · rw [mst_no (by omega)]
      · rw [upd_ne (by decide)]
      · rw [upd_ne (by omega)]
      · rw [mst_no hz]
  unfold f_X9_passHour f_X9_passHour_l2
  rw [gd_t hT, gd_t hl]
  refine wh_V (fun k (q : Int32 × mM) => q.1 = nI k ∧ TS n (tiK n W k) q.2 o ∧ ∀ z, (z < o ∨ o + 11 < z) → z ≠ lo + 5 → q.2 z = M z) _ _ 8 100000 _ ⟨rfl, by rw [ti_0]; exact h, fun _ _ _ => rfl⟩ (fun k hk q hq => ?_) (fun q hq => ?_) (by decide)
  · obtain ⟨q1, M'⟩ := q
    obtain ⟨rfl, g2, g3⟩ := hq
    dsimp only at g2 g3
    show ∃ s', f_X9_passHour_2 o lo dr (nI k) M' = some (.inr s') ∧ _
    unfold f_X9_passHour_2
    rw [bif_f (i_8 hk), g2.1.1, i_le (by omega) (by omega), i_1]
    cases e : decide (n ≤ k)
    · have hkn : k < n := by have := of_decide_eq_false e; omega
      obtain ⟨M1, a1, a2, a3⟩ := C_fade hw g2 (hL.rf fun j hj => g3 _ (by omega) (by omega)) hl hT hkn hsep
      rw [cond_false, a1, b2_s]
      exact ⟨_, rfl, rfl, a2, fun z z1 z2 => by dsimp only; rw [a3 z z1 z2, g3 z z1 z2]⟩
    · have hkn := of_decide_eq_true e
      refine ⟨_, rfl, rfl, ?_, g3⟩
      dsimp only
      rw [ti_n (show n ≤ k + 1 by omega), ← ti_n hkn]
      exact g2
  · obtain ⟨q1, M'⟩ := q
    obtain ⟨rfl, g2, g3⟩ := hq
    dsimp only at g2 g3
    rw [ti_n h8] at g2
    show ∃ M2, f_X9_passHour_2 o lo dr (nI 8) M' = _ ∧ _
    unfold f_X9_passHour_2
    rw [bif_t i_88]
    cases hdr : dr
    · rw [cond_false]
      subst hdr
      obtain ⟨M1, a1, a2⟩ := fin M' g2 g3
      exact ⟨M1, by rw [a1]; rfl, a2⟩
    · rw [cond_true]
      subst hdr
      have hLt : LW (tiK n W n) M' lo := (hL.eq2 (ti_o (by decide)) (fun j h1 _ => ti_o (by omega))).rf fun j hj => g3 _ (by omega) (by omega)
      obtain ⟨M1, a1, a2, a3⟩ := C_draws (hw.ti hL) g2 hLt hl hT hsep
      obtain ⟨M2, b1, b2⟩ := fin M1 a2 (fun z z1 z2 => by rw [a3 z z1 z2, g3 z z1 z2])
      exact ⟨M2, by rw [a1, b2_s, b1]; rfl, b2⟩
/-- an hour, by the reference -/
theorem M_hour (hw : WF n W) {M Mc : mM} {lo : Nat} {calm : Bool} (h216 : M 216 = W) (hL : LW W Mc lo) : ∃ M1, f_X12_oneHour calm M = some (nI (hourF n W (!calm)), M1) ∧ M1 216 = hourW n W (!calm) ∧ (∀ z, z ≠ 215 → z ≠ 216 → z ≠ 221 → z ≠ 222 → z ≠ 225 → z ≠ 226 → M1 z = M z) ∧ ∀ k, k ≠ 10 → k ≠ 11 → M1 215 k = M 215 k := by
  have h8 := hw.2.1
  obtain ⟨M1, a1, a2, a3⟩ := M_tires hw h216 hL
  have fin : ∀ N : mM, N 216 = preW n W (!calm) → (∀ z, z ≠ 216 → z ≠ 221 → z ≠ 225 → z ≠ 226 → N z = M z) → ∃ M2, f_X12_oneHour_31 N = some (nI (hourF n W (!calm)), M2) ∧ M2 216 = hourW n W (!calm) ∧ (∀ z, z ≠ 215 → z ≠ 216 → z ≠ 221 → z ≠ 222 → z ≠ 225 → z ≠ 226 → M2 z = M z) ∧ ∀ k, k ≠ 10 → k ≠ 11 → M2 215 k = M 215 k := fun N hN fN => by
    have hwp := hw.pre hL (dr := !calm)
    obtain ⟨M2, b1, b2, b3, b4, b5, b6, b7⟩ := M_allFall hwp hN
    have hwf := hwp.fW (fK n (preW n W (!calm)))
    obtain ⟨x, hx, ex⟩ := hwf.2.2.2.2.2.1
    have ex' : falW n (preW n W (!calm)) 3 = nI x := ex
    unfold f_X12_oneHour_31
    rw [b1, b2_s, wr_e, show ix (3 : Int32) = 3 from rfl, show ix (4 : Int32) = 4 from rfl, mst_oo, b2]
    have e24 : decide (¬ falW n (preW n W (!calm)) 3 + 1 = 24) = decide (falW n (preW n W (!calm)) 3 + 1 < 24) := by
      rw [ex', nI_1, dn, show (24 : Int32) = nI 24 from rfl, i_lt (by omega) (by decide), i_eq (by omega) (by decide)]
      by_cases hx2 : x + 1 = 24
      · rw [decide_eq_true hx2, decide_eq_false (by omega)]; rfl
      · rw [decide_eq_false hx2, decide_eq_true (by omega)]; rfl
    rw [e24]
    unfold hourW hrW
    have fr : ∀ N' : mM, (∀ z, z ≠ 216 → N' z = M2 z) → (∀ z, z ≠ 215 → z ≠ 216 → z ≠ 221 → z ≠ 222 → z ≠ 225 → z ≠ 226 → N' z = M z) ∧ ∀ k, k ≠ 10 → k ≠ 11 → N' 215 k = M 215 k := fun N' hN' => ⟨fun z z1 z2 z3 z4 z5 z6 => by rw [hN' z z2, b6 z z1 z2 z3 z4, fN z z2 z3 z5 z6], fun k k1 k2 => by rw [hN' 215 (by decide), b7 k k1 k2, fN 215 (by decide) (by decide) (by decide) (by decide)]⟩
    cases decide (falW n (preW n W (!calm)) 3 + 1 < 24)
    · rw [cond_false, cond_false, wr_e, wr_e, mst_no (show 215 ≠ 216 by decide), mst_no (show 215 ≠ 216 by decide), mst_no (show 215 ≠ 216 by decide), b3]
      refine ⟨_, rfl, ?_, fr _ fun z hz => by rw [mst_no hz, mst_no hz, mst_no hz]⟩
      rw [mst_at, mst_at, mst_at, b2, upd_upd, upd_ne (show 4 ≠ 3 by decide)]
    · rw [cond_true, cond_true, mst_no (show 215 ≠ 216 by decide), b3]
      refine ⟨_, rfl, ?_, fr _ fun z hz => mst_no hz⟩
      rw [mst_at, b2]
  unfold f_X12_oneHour f_X12_oneHour_l4
  rw [a1, b2_s]
  have hwt := hw.ti hL (k := n)
  cases calm
  · refine wh_V (fun k (q : Int32 × mM) => q.1 = nI k ∧ q.2 216 = drK n (tiK n W n) k ∧ ∀ z, z ≠ 216 → z ≠ 221 → z ≠ 225 → z ≠ 226 → q.2 z = M z) _ _ n 100000 _ ⟨rfl, a2, a3⟩ (fun k hk q hq => ?_) (fun q hq => ?_) (by omega)
    · obtain ⟨q1, M'⟩ := q
      obtain ⟨rfl, g2, g3⟩ := hq
      dsimp only at g2 g3
      have hwk := hwt.dr k (by omega)
      show ∃ s', f_X12_oneHour_4 false (nI k) M' = some (.inr s') ∧ _
      unfold f_X12_oneHour_4
      rw [m_ppl (n := n) (by rw [g2]; exact hwk.1), b1_s, bif_f (i_len hk h8), cond_false, m_holds (by omega), b1_s, g2, i_1, drK_s, decide_eq_true hk, Bool.true_and]
      cases hh : hoB (drK n (tiK n W n) k) k
      · exact ⟨_, rfl, rfl, g2, g3⟩
      · rw [cond_true, cond_true]
        have ed : f_X12_drawn 100 M' = some (drwV (seedN (drK n (tiK n W n) k 7)), rs M' 216 (upd (drK n (tiK n W n) k) 7 (seedN (drK n (tiK n W n) k 7)))) := by
          unfold f_X12_drawn
          rw [show ix (7 : Int32) = 7 from rfl, g2, wr_e, mst_oo, gd_t (show decide (¬ (100 : Int32) = 0) = true from rfl), mst_rs, g2]
          unfold drwV
          rw [draw_eq]
          rfl
        have hLk : LW (upd (drK n (tiK n W n) k) 7 (seedN (drK n (tiK n W n) k 7))) Mc lo := hL.eq2 (by rw [upd_ne (by decide), dr_h (by decide) (by decide) k (by omega), ti_o (by decide)]) (fun j h1 _ => by rw [upd_ne (by omega), dr_h (by omega) (by omega) k (by omega), ti_o (by omega)])
        obtain ⟨M4, c1, c2⟩ := M_byLaw hwk.seed (M := rs M' 216 (upd (drK n (tiK n W n) k) 7 (seedN (drK n (tiK n W n) k 7)))) (p := k) (kind := 2) (rs_at _ _ _) hLk hk (Or.inr (Or.inr rfl))
        have f4 : ∀ z, z ≠ 216 → z ≠ 221 → z ≠ 225 → z ≠ 226 → M4 z = M z := fun z z1 z2 z3 z4 => by rw [c2 z z2 z3, rs_ne z1, g3 z z1 z2 z3 z4]
        have e4 : M4 216 = upd (drK n (tiK n W n) k) 7 (seedN (drK n (tiK n W n) k 7)) := by rw [c2 _ (by decide) (by decide), rs_at]
        rw [ed, b2_s, c1, b2_s]
        cases decide (lawV n (upd (drK n (tiK n W n) k) 7 (seedN (drK n (tiK n W n) k 7))) 2 k ≤ drwV (seedN (drK n (tiK n W n) k 7)))
        · rw [cond_false, cond_false, show f_X12_at (nI k) (3 : Int32) = nI (8 + 7 * k + 3) from i_at (c := 3), gd_t (i_in (by omega) (by decide)), i_ix (by omega), wr_e]
          exact ⟨_, rfl, rfl, by dsimp only; rw [mst_at, e4], fun z z1 z2 z3 z4 => by dsimp only; rw [mst_no z1, f4 z z1 z2 z3 z4]⟩
        · exact ⟨_, rfl, rfl, e4, f4⟩
    · obtain ⟨q1, M'⟩ := q
      obtain ⟨rfl, g2, g3⟩ := hq
      dsimp only at g2 g3
      obtain ⟨M2, b1, b2⟩ := fin M' g2 g3
      refine ⟨M2, ?_, b2⟩
      show f_X12_oneHour_4 false (nI n) M' = _
      unfold f_X12_oneHour_4
      rw [m_ppl (n := n) (by rw [g2]; exact (hwt.dr n h8).1), b1_s, bif_t (i_lee n), b1]
      rfl
  · obtain ⟨M2, b1, b2⟩ := fin M1 a2 a3
    refine ⟨M2, ?_, b2⟩
    have e0 : f_X12_oneHour_4 true 0 M1 = some (.inl (nI (hourF n W (!true)), M2)) := by
      unfold f_X12_oneHour_4
      rw [m_ppl (n := n) (by rw [a2]; exact hwt.1), b1_s, b1]
      cases decide (nI n ≤ 0) <;> rfl
    exact wh_1 e0
end
