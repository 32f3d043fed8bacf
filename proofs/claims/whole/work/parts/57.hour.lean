/-! a FALL by the reference, whole; who tires -/
section
variable {n : Nat} {W : Nat → Int32}
theorem gwS_in (b b' : Nat → Int32) : gwS n W b = gwS n W b' := set_congr fun p hp => by rw [rCar_in (b' := b') hp]
theorem M_allFall (hw : WF n W) {M : mM} (h216 : M 216 = W) : ∃ M1, f_X12_allFall M = some ((), M1) ∧ M1 216 = falW n W ∧ M1 215 10 = nI (fF n W (fK n W)) ∧ M1 215 11 = nI (fK n W) ∧ (∀ i, i < fF n W (fK n W) → M1 222 i = fA n W (fK n W) i) ∧ (∀ z, z ≠ 215 → z ≠ 216 → z ≠ 221 → z ≠ 222 → M1 z = M z) ∧ ∀ k, k ≠ 10 → k ≠ 11 → M1 215 k = M 215 k := by
  have h8 := hw.2.1
  have hK : fK n W ≤ 8 := fK_le
  unfold f_X12_allFall f_X12_allFall_l6
  rw [wr_e, wr_e]
  have key := wh_P (b := fun s : mM => f_X12_allFall_6 s) (fun k q => q 216 = fW n W k ∧ q 215 10 = nI (fF n W k) ∧ q 215 11 = nI k ∧ (∀ i, i < fF n W k → q 222 i = fA n W k i) ∧ (∀ z, z ≠ 215 → z ≠ 216 → z ≠ 221 → z ≠ 222 → q z = M z) ∧ ∀ k, k ≠ 10 → k ≠ 11 → q 215 k = M 215 k)
    (fun u : Unit × mM => u.2 216 = falW n W ∧ u.2 215 10 = nI (fF n W (fK n W)) ∧ u.2 215 11 = nI (fK n W) ∧ (∀ i, i < fF n W (fK n W) → u.2 222 i = fA n W (fK n W) i) ∧ (∀ z, z ≠ 215 → z ≠ 216 → z ≠ 221 → z ≠ 222 → u.2 z = M z) ∧ ∀ k, k ≠ 10 → k ≠ 11 → u.2 215 k = M 215 k) (fK n W) 100000 (mst (mst M 215 10 0) 215 11 0)
    ⟨h216, by rw [mst_nk (by decide), mst_oo]; rfl, mst_oo _ _ _ _, fun i hi => absurd hi (Nat.not_lt_zero i), fun z z1 _ _ _ => by rw [mst_no z1, mst_no z1], fun k k1 k2 => by rw [mst_nk k2, mst_nk k1]⟩ (fun k hk q hq => ?_) (fun q hq => ?_) (by omega)
  · obtain ⟨u, e1, e2⟩ := key
    exact ⟨u.2, e1, e2⟩
  · obtain ⟨g2, g3, g4, g5, g6, g7⟩ := hq
    have hwk := hw.fW k
    have hst := fK_lt hk
    have hn : q 216 0 = nI n := by rw [g2]; exact hwk.1
    unfold f_X12_allFall_6
    rw [m_stands hn h8, b2_s, g2, stB_in _ (fun _ => 0), hst, cond_false]
    generalize hN : rs q 221 (rCar n (fW n W k) (q 221)) = N
    have N216 : N 216 = fW n W k := by rw [← hN, rs_ne (by decide), g2]
    have hnN : N 216 0 = nI n := by rw [N216]; exact hwk.1
    rw [m_gives hnN h8, b2_s, N216, gwS_in _ (fun _ => 0)]
    generalize hN2 : rs N 221 (rCar n (fW n W k) (N 221)) = N2
    have eN : ∀ z, z ≠ 221 → N2 z = q z := fun z hz => by rw [← hN2, rs_ne hz, ← hN, rs_ne hz]
    have N2216 : N2 216 = fW n W k := by rw [eN _ (by decide), g2]
    have hnN2 : N2 216 0 = nI n := by rw [N2216]; exact hwk.1
    rw [m_hging hnN2 h8, b1_s, N2216, wr_e, eN 215 (by decide), g4, i_1]
    obtain ⟨M1, a1, a2, a3, a4, a5, a6⟩ := M_fl_in hwk (M := mst N2 215 11 (nI (k + 1))) (r := k + 1) (f := fF n W k) (A := fA n W k) (by rw [mst_no (by decide), N2216]) (fun p hp => by rw [mst_no (by decide), ← hN2, rs_at]; exact rCar_in hp) (fF_le2 h8 k) (by rw [mst_nk (by decide), eN _ (by decide), g3]) (mst_oo _ _ _ _) (fun i hi => by rw [mst_no (by decide), eN _ (by decide)]; exact g5 i hi)
    refine ⟨M1, a1, a2, a3, ?_, a4, fun z z1 z2 z3 z4 => ?_, fun j j1 j2 => ?_⟩
    · rw [a6 11 (by decide), mst_oo]
    · rw [a5 z z1 z2 z4, mst_no z1, eN z z3, g6 z z1 z2 z3 z4]
    · rw [a6 j j1, mst_nk j2, eN 215 (by decide), g7 j j1 j2]
  · obtain ⟨g2, g3, g4, g5, g6, g7⟩ := hq
    have hst := fK_st (n := n) (W := W) h8
    have hn : q 216 0 = nI n := by rw [g2]; exact (hw.fW (fK n W)).1
    unfold f_X12_allFall_6
    rw [m_stands hn h8, b2_s, g2, stB_in _ (fun _ => 0), show stB n (fW n W (fK n W)) (fun _ => 0) = true from hst, cond_true]
    exact ⟨_, rfl, by dsimp only; rw [rs_ne (by decide), g2]; rfl, by dsimp only; rw [rs_ne (by decide), g3], by dsimp only; rw [rs_ne (by decide), g4], fun i hi => by dsimp only; rw [rs_ne (by decide)]; exact g5 i hi, fun z z1 z2 z3 z4 => by dsimp only; rw [rs_ne z3, g6 z z1 z2 z3 z4], fun j j1 j2 => by dsimp only; rw [rs_ne (by decide), g7 j j1 j2]⟩
/-! worlds that are alike in who is on whom -/
def eqB (W W' : Nat → Int32) : Prop := ∀ p c, p < 8 → (c = 0 ∨ c = 3 ∨ c = 5 ∨ c = 6) → pv W' p c = pv W p c
section
variable {W' : Nat → Int32}
theorem eqB.up (h : eqB W W') {p : Nat} (hp : p < 8) : upB W' p = upB W p := by unfold upB; rw [h p 5 hp (by decide)]
theorem eqB.sl (h : eqB W W') {p : Nat} (hp : p < 8) : slB W' p = slB W p := by unfold slB; rw [h p 3 hp (by decide)]
theorem eqB.ho (h : eqB W W') {p : Nat} (hp : p < 8) : hoB W' p = hoB W p := by unfold hoB; rw [h.up hp, h.sl hp]
theorem eqB.ups (h : eqB W W') : upS n W' = upS n W := set_congr fun p hp => by rw [h.up hp]
theorem eqB.sls (h : eqB W W') : slS n W' = slS n W := set_congr fun p hp => by rw [h.sl hp]
theorem eqB.hos (h : eqB W W') : hoS n W' = hoS n W := set_congr fun p hp => by rw [h.ho hp]
theorem eqB.car (h : eqB W W') {b : Nat → Int32} : rCar n W' b = rCar n W b := by
  unfold rCar
  refine car_congr (fun r p _ _ hp => ?_) (fun r p _ _ hp _ => ?_)
  · unfold rAct; rw [h p 5 hp (by decide)]
  · unfold rBy; exact ⟨h p 0 hp (by decide), by rw [h p 6 hp (by decide), h.hos]⟩
theorem fact_cg (h : eqB W W') {p : Nat} (hp : p < 8) (e3 : W' 3 = W 3) (h8 : n ≤ 8) (a2 : pv W' p 2 = pv W p 2) (a4 : pv W' p 4 = pv W p 4) {c a : Int32} : factV n W' c a p = factV n W c a p := by
  have et : topB n W' p = topB n W p := by
    unfold topB
    rw [h.up hp, exK_congr (d := fun q => hs (pv W q 6) p) fun q hq => by rw [h q 6 (by omega) (by decide)]]
  unfold factV
  rw [h p 5 hp (by decide), h.car, a2, h p 0 hp (by decide), a4, e3, h p 3 hp (by decide), h.up hp, et]
theorem lawV_cg (h : eqB W W') {p : Nat} (hp : p < 8) (h8 : n ≤ 8) (e2 : W' 2 = W 2) (e3 : W' 3 = W 3) (el : ∀ k, 424 ≤ k → W' k = W k) (a2 : pv W' p 2 = pv W p 2) (a4 : pv W' p 4 = pv W p 4) {kind : Int32} : lawV n W' kind p = lawV n W kind p := by
  have e1 : ∀ s k, lnS n W' p s k = lnS n W p s k := fun s k => by
    induction k with
    | zero => rfl
    | succ k ih =>
      show stp (factV n W' (W' (473 + 2 * (s + k))) (W' (474 + 2 * (s + k))) p) (W' (473 + 2 * (s + k))) (lnS n W' p s k) = stp (factV n W (W (473 + 2 * (s + k))) (W (474 + 2 * (s + k))) p) (W (473 + 2 * (s + k))) (lnS n W p s k)
      rw [ih, el _ (by omega), el _ (by omega), fact_cg h hp e3 h8 a2 a4]
  have ev : ∀ s e, lnV n W' p s e = lnV n W p s e := fun s e => by unfold lnV; rw [e1]
  have ek : ∀ m, lawK n W' kind p m = lawK n W kind p m := fun m => by
    induction m with
    | zero => rfl
    | succ m ih =>
      show (bif decide (W' (425 + 4 * m) = kind) && lnV n W' p (ix (W' (427 + 4 * m))) (ix (W' (428 + 4 * m))) then lawK n W' kind p m + W' (426 + 4 * m) else lawK n W' kind p m) = (bif decide (W (425 + 4 * m) = kind) && lnV n W p (ix (W (427 + 4 * m))) (ix (W (428 + 4 * m))) then lawK n W kind p m + W (426 + 4 * m) else lawK n W kind p m)
      rw [ih, el (425 + 4 * m) (by omega), el (426 + 4 * m) (by omega), el (427 + 4 * m) (by omega), el (428 + 4 * m) (by omega), ev]
  unfold lawV untV
  rw [e2, ek, el 424 (by omega), h.ho hp, a4]
/-- strength and hours awake alone -/
theorem TS.sa {M M' : mM} {o : Nat} (h : TS n W M o) (h8 : n ≤ 8) (e : ∀ p c, p < 8 → c < 7 → c ≠ 2 → c ≠ 4 → pv W' p c = pv W p c) (eo : ∀ k, (k < 8 ∨ 64 ≤ k) → W' k = W k) (e3 : ∀ p, p < n → M' (o + 3) p = pv W' p 2) (e4 : ∀ p, p < n → M' (o + 4) p = pv W' p 4) (z3 : ∀ p, n ≤ p → p < 8 → M' (o + 3) p = 0) (z4 : ∀ p, n ≤ p → p < 8 → M' (o + 4) p = 0) (er : ∀ z, o ≤ z → z ≤ o + 10 → z ≠ o + 3 → z ≠ o + 4 → z ≠ o + 8 → M' z = M z) : TS n W' M' o := by
  have hB : eqB W W' := fun p c hp hc => e p c hp (by omega) (by omega) (by omega)
  have e0 : M' o = M o := er o (by omega) (by omega) (by omega) (by omega) (by omega)
  obtain ⟨a0, a1, a2, a3, a4, a5, a6, a7, -⟩ := id h.1
  refine ⟨TR.mk (by rw [e0]; exact a0) (by rw [e0, hB.ups]; exact a1) (by rw [e0, hB.sls]; exact a2) (by rw [e0, eo _ (by decide)]; exact a3) (by rw [e0, eo _ (by decide)]; exact a4) (by rw [e0, eo _ (by decide)]; exact a5) (by rw [e0, eo _ (by decide)]; exact a6) (by rw [e0, eo _ (by decide)]; exact a7) (fun p hp => ?_) (fun p hp hp8 => ⟨z3 p hp hp8, z4 p hp hp8, by rw [er (o + 6) (by omega) (by omega) (by omega) (by omega) (by omega)]; exact (h.1.p0 hp hp8).2.2⟩) (h.1.lr.cg (eo _ (by decide)) (fun k h1 h2 => eo k (by omega)) (by rw [er (o + 9) (by omega) (by omega) (by omega) (by omega) (by omega)]) (by rw [er (o + 9) (by omega) (by omega) (by omega) (by omega) (by omega)]) (er _ (by omega) (by omega) (by omega) (by omega) (by omega))), ?_, fun p hp => ?_⟩
  · obtain ⟨b0, b1, b2, b3, b4, b5⟩ := h.1.pp hp
    rw [er (o + 1) (by omega) (by omega) (by omega) (by omega) (by omega), er (o + 2) (by omega) (by omega) (by omega) (by omega) (by omega), er (o + 5) (by omega) (by omega) (by omega) (by omega) (by omega), er (o + 6) (by omega) (by omega) (by omega) (by omega) (by omega), e p 0 (by omega) (by decide) (by decide) (by decide), e p 1 (by omega) (by decide) (by decide) (by decide), e p 5 (by omega) (by decide) (by decide) (by decide), e p 6 (by omega) (by decide) (by decide) (by decide), hB.up (by omega)]
    exact ⟨b0, b1, e3 p hp, e4 p hp, b4, b5⟩
  · rw [e0, h.2.1]
    exact (tTrod_eq (fun k hk => by rw [er _ (by omega) (by omega) (by omega) (by omega) (by omega)]) (Nat.le_refl 8)).symm
  · rw [er _ (by omega) (by omega) (by omega) (by omega) (by omega), hB.car]
    exact h.2.2 p hp
end
def tireV (n : Nat) (W : Nat → Int32) (p : Nat) : Int32 := mMin (pv W p 1) (mMax 0 (pv W p 2 - lawV n W 0 p) + lawV n W 1 p)
def wakeV (W : Nat → Int32) (p : Nat) : Int32 := bif hoB W p then mMin 99 (pv W p 4 + 1) else 0
def tiK (n : Nat) (W : Nat → Int32) (k : Nat) : Nat → Int32 := pX W fun p c => bif decide (p < k) && decide (p < n) then (if c = 2 then tireV n W p else if c = 4 then wakeV W p else pv W p c) else pv W p c
theorem ti_c {k p c : Nat} (hp : p < 8) (hc : c < 7) (h2 : c ≠ 2) (h4 : c ≠ 4) : pv (tiK n W k) p c = pv W p c := by
  unfold tiK
  rw [pX_pv hp hc, if_neg h2, if_neg h4]
  cases decide (p < k) && decide (p < n) <;> rfl
theorem ti_2 {k p : Nat} (hp : p < 8) : pv (tiK n W k) p 2 = bif decide (p < k) && decide (p < n) then tireV n W p else pv W p 2 := by
  unfold tiK
  rw [pX_pv hp (by decide), if_pos rfl]
theorem ti_4 {k p : Nat} (hp : p < 8) : pv (tiK n W k) p 4 = bif decide (p < k) && decide (p < n) then wakeV W p else pv W p 4 := by
  unfold tiK
  rw [pX_pv hp (by decide), if_neg (by decide), if_pos rfl]
theorem ti_o {k j : Nat} (h : j < 8 ∨ 64 ≤ j) : tiK n W k j = W j := pX_o h
theorem ti_B {k : Nat} : eqB W (tiK n W k) := fun p c hp hc => ti_c hp (by omega) (by omega) (by omega)
theorem ti_0 : tiK n W 0 = W := W_ext (fun p c hp hc => by
  unfold tiK
  rw [pX_pv hp hc, decide_eq_false (Nat.not_lt_zero p)]
  rfl) fun j hj => ti_o hj
theorem ti_n {k : Nat} (h1 : n ≤ k) : tiK n W k = tiK n W n := W_ext (fun p c hp hc => by
  unfold tiK
  rw [pX_pv hp hc, pX_pv hp hc]
  by_cases h : p < n
  · rw [decide_eq_true h, decide_eq_true (show p < k by omega)]
  · rw [decide_eq_false h, Bool.and_false, Bool.and_false]) fun j hj => by rw [ti_o hj, ti_o hj]
theorem ti_law {k p : Nat} (hp : p < 8) (h8 : n ≤ 8) (hk : k ≤ p) {kind : Int32} : lawV n (tiK n W k) kind p = lawV n W kind p :=
  lawV_cg ti_B hp h8 (ti_o (by decide)) (ti_o (by decide)) (fun k hk => ti_o (by omega)) (by rw [ti_2 hp, decide_eq_false (by omega)]; rfl) (by rw [ti_4 hp, decide_eq_false (by omega)]; rfl)
theorem mMax_s {a b : Nat} (ha : a < 2 ^ 30) (hb : b < 2 ^ 30) : mMax 0 (nI a - nI b) = nI (a - b) := by
  by_cases h : b ≤ a
  · rw [pk_sub h, show (0 : Int32) = nI 0 from rfl, mMax_n (by decide) (by omega), Nat.max_eq_right (Nat.zero_le _)]
  · have := pk_sneg hb (show a < b by omega)
    rw [mMax_b, decide_eq_true (Int32.le_of_lt this), cond_true, show a - b = 0 by omega]
    rfl
theorem tire_nI (hw : WF n W) {M : mM} {lo : Nat} (hL : LW W M lo) {p : Nat} (hp : p < n) : ∃ x, x ≤ 999 ∧ tireV n W p = nI x := by
  obtain ⟨-, ⟨F, hF, e1⟩, ⟨S, hS, e2⟩, -⟩ := hw.2.2.2.1 p hp
  obtain ⟨a, ha, e3⟩ := lawV_nI hw hL (kind := 0) hp
  obtain ⟨m, hm, e4⟩ := lawV_nI hw hL (kind := 1) hp
  unfold tireV
  rw [e1, e2, e3, e4, mMax_s (by omega) (by omega), nI_add, mMin_n (by omega) (by omega)]
  exact ⟨_, Nat.le_trans (Nat.min_le_left _ _) hF, rfl⟩
theorem wake_nI (hw : WF n W) {p : Nat} (hp : p < n) : ∃ x, x ≤ 99 ∧ wakeV W p = nI x := by
  obtain ⟨-, -, -, a, ha, e⟩ := hw.2.2.2.1 p hp
  unfold wakeV
  rw [e, nI_1, show (99 : Int32) = nI 99 from rfl, mMin_n (by decide) (by omega)]
  cases hoB W p
  · exact ⟨0, by omega, rfl⟩
  · exact ⟨_, Nat.min_le_left _ _, rfl⟩
theorem WF.ti (hw : WF n W) {M : mM} {lo : Nat} (hL : LW W M lo) {k : Nat} : WF n (tiK n W k) := by
  have h8 := hw.2.1
  have hw' := hw
  obtain ⟨a0, a1, a2, a3, a4, a5, a6, a7⟩ := hw
  refine ⟨by rw [ti_o (by decide)]; exact a0, a1, fun p hp => ?_, fun p hp => ?_, by rw [ti_o (by decide)]; exact a4, by rw [ti_o (by decide)]; exact a5, by rw [ti_o (by decide)]; exact a6, by rw [ti_o (by decide)]; exact a7⟩
  · obtain ⟨b1, b2, b3, b4, b5⟩ := a2 p hp
    rw [ti_c (by omega) (show 3 < 7 by decide) (by decide) (by decide), ti_c (by omega) (show 5 < 7 by decide) (by decide) (by decide), ti_c (by omega) (show 6 < 7 by decide) (by decide) (by decide)]
    refine ⟨b1, b2, b3, b4, fun q hq g => ?_⟩
    rw [ti_c hq (show 5 < 7 by decide) (by decide) (by decide), ti_B.up hq]
    exact b5 q hq g
  · obtain ⟨b0, b1, b2, b3⟩ := a3 p hp
    rw [ti_c (by omega) (show 0 < 7 by decide) (by decide) (by decide), ti_c (by omega) (show 1 < 7 by decide) (by decide) (by decide), ti_2 (by omega), ti_4 (by omega)]
    refine ⟨b0, b1, ?_, ?_⟩
    · cases decide (p < k) && decide (p < n)
      · exact b2
      · exact tire_nI hw' hL hp
    · cases decide (p < k) && decide (p < n)
      · exact b3
      · exact wake_nI hw' hp
/-- one of the class tires -/
theorem C_fade (hw : WF n W) {M : mM} {o lo k : Nat} (h : TS n (tiK n W k) M o) (hL0 : LW W M lo) (hl : mLwB lo = true) (hT : mTwB o = true) (hk : k < n) (hsep : o + 11 < lo ∨ lo + 5 < o) : ∃ M1, f_X9_fadeAndMend o lo (nI k) M = some ((), M1) ∧ TS n (tiK n W (k + 1)) M1 o ∧ ∀ z, (z < o ∨ o + 11 < z) → z ≠ lo + 5 → M1 z = M z := by
  have h8 := hw.2.1
  have hwk := hw.ti hL0 (k := k)
  have hL : LW (tiK n W k) M lo := hL0.eq2 (ti_o (by decide)) (fun j h1 _ => ti_o (by omega))
  obtain ⟨M3, a1, a2⟩ := C_amount hwk (p := k) (kind := 0) h hL hl hT hk hsep (Or.inl rfl)
  have h3 : TS n (tiK n W k) M3 o := h.in216 h8 fun z g1 g2 => a2 z (by omega)
  have hL3 : LW (tiK n W k) M3 lo := hL.rf fun j hj => a2 _ (by omega)
  obtain ⟨M4, b1, b2⟩ := C_amount hwk (p := k) (kind := 1) h3 hL3 hl hT hk hsep (Or.inr (Or.inl rfl))
  have h4 : TS n (tiK n W k) M4 o := h3.in216 h8 fun z g1 g2 => b2 z (by omega)
  have g := h4.1.pp hk
  have e1 : pv (tiK n W k) k 1 = pv W k 1 := ti_c (by omega) (by decide) (by decide) (by decide)
  have e2 : pv (tiK n W k) k 2 = pv W k 2 := by rw [ti_2 (by omega), decide_eq_false (by omega)]; rfl
  have e4 : pv (tiK n W k) k 4 = pv W k 4 := by rw [ti_4 (by omega), decide_eq_false (by omega)]; rfl
  have eM : mMin (M4 (o + 2) k) (mMax 0 (M4 (o + 3) k - lawV n (tiK n W k) 0 k) + lawV n (tiK n W k) 1 k) = tireV n W k := by
    rw [g.2.1, g.2.2.1, e1, e2, ti_law (by omega) h8 (Nat.le_refl k), ti_law (by omega) h8 (Nat.le_refl k)]
    rfl
  have hf : ∀ v N, f_X9_fadeAndMend_49 o lo (nI k) v N = some ((), mst N (o + 4) k v) := fun v N => by
    unfold f_X9_fadeAndMend_49
    rw [gd_t (i_in (by omega) (by decide)), i_ix (by omega), wr_e]
  have hho : f_X9_holders o (mst M4 (o + 3) k (tireV n W k)) = some (hoS n W) := by
    rw [T_hold hT, mst_no (by omega), h4.1.ho, ti_B.hos]
  have ef : f_X9_fadeAndMend o lo (nI k) M = some ((), mst (mst M4 (o + 3) k (tireV n W k)) (o + 4) k (wakeV W k)) := by
    unfold f_X9_fadeAndMend
    rw [gd_t hT, gd_t hl, a1, b2_s, b1, b2_s, gd_t (i_in (by omega) (by decide)), gd_t (i_in (by omega) (by decide)), gd_t (i_in (by omega) (by decide)), i_ix (by omega), eM, wr_e, hho, b1_s, has_hs (by omega), hs_hos (by omega), decide_eq_true hk, Bool.true_and, gd_t (i_in (by omega) (by decide)), mst_no (show o + 4 ≠ o + 3 by omega), g.2.2.2.1, e4, hf, hf]
    unfold wakeV
    cases hoB W k <;> rfl
  refine ⟨_, ef, ?_, fun z z1 z2 => by rw [mst_no (by omega), mst_no (by omega), b2 z (by omega), a2 z (by omega)]⟩
  refine h4.sa h8 (fun p c hp hc c2 c4 => by rw [ti_c hp hc c2 c4, ti_c hp hc c2 c4]) (fun j hj => by rw [ti_o hj, ti_o hj]) (fun p hp => ?_) (fun p hp => ?_) (fun p hp hp8 => ?_) (fun p hp hp8 => ?_) (fun z z1 z2 z3 z4 z8 => by rw [mst_no z4, mst_no z3])
  · rw [mst_no (by omega), ti_2 (by omega)]
    by_cases hpk : p = k
    · subst hpk
      rw [mst_oo, decide_eq_true (by omega), decide_eq_true hk]; rfl
    · rw [mst_nk hpk, (h4.1.pp hp).2.2.1, ti_2 (by omega)]
      by_cases hpk2 : p < k
      · rw [decide_eq_true hpk2, decide_eq_true (show p < k + 1 by omega)]
      · rw [decide_eq_false hpk2, decide_eq_false (show ¬ p < k + 1 by omega)]
  · rw [ti_4 (by omega)]
    by_cases hpk : p = k
    · subst hpk
      rw [mst_oo, decide_eq_true (by omega), decide_eq_true hk]; rfl
    · rw [mst_nk hpk, mst_no (by omega), (h4.1.pp hp).2.2.2.1, ti_4 (by omega)]
      by_cases hpk2 : p < k
      · rw [decide_eq_true hpk2, decide_eq_true (show p < k + 1 by omega)]
      · rw [decide_eq_false hpk2, decide_eq_false (show ¬ p < k + 1 by omega)]
  · rw [mst_no (by omega), mst_nk (by omega)]
    exact (h4.1.p0 hp hp8).1
  · rw [mst_nk (by omega), mst_no (by omega)]
    exact (h4.1.p0 hp hp8).2.1
/-- all of the reference tire -/
theorem M_tires (hw : WF n W) {M Mc : mM} {lo : Nat} (h216 : M 216 = W) (hL : LW W Mc lo) : ∃ M1, f_X12_tires M = some ((), M1) ∧ M1 216 = tiK n W n ∧ ∀ z, z ≠ 216 → z ≠ 221 → z ≠ 225 → z ≠ 226 → M1 z = M z := by
  have h8 := hw.2.1
  have hn := hw.1
  unfold f_X12_tires f_X12_tires_l2
  refine wh_V (fun k (q : Int32 × mM) => q.1 = nI k ∧ q.2 216 = W ∧ (∀ p, p < k → q.2 226 p = tireV n W p) ∧ ∀ z, z ≠ 221 → z ≠ 225 → z ≠ 226 → q.2 z = M z) _ _ n 100000 _ ⟨rfl, h216, fun p hp => absurd hp (Nat.not_lt_zero p), fun _ _ _ _ => rfl⟩ (fun k hk q hq => ?_) (fun q hq => ?_) (by omega)
  · obtain ⟨q1, M'⟩ := q
    obtain ⟨rfl, g2, g3, g4⟩ := hq
    dsimp only at g2 g3 g4
    obtain ⟨M3, a1, a2⟩ := M_byLaw hw (M := M') (p := k) (kind := 0) g2 hL hk (Or.inl rfl)
    have g23 : M3 216 = W := by rw [a2 _ (by decide) (by decide), g2]
    obtain ⟨M4, b1, b2⟩ := M_byLaw hw (M := M3) (p := k) (kind := 1) g23 hL hk (Or.inr (Or.inl rfl))
    refine ⟨(nI (k + 1), mst M4 226 k (tireV n W k)), ?_, rfl, ?_, fun p hp => ?_, fun z z1 z2 z3 => ?_⟩
    · show f_X12_tires_2 (nI k) M' = _
      unfold f_X12_tires_2
      rw [m_ppl (n := n) (by rw [g2]; exact hn), b1_s, bif_f (i_len hk h8), show f_X12_of (nI k) (1 : Int32) M' = some (pv (M' 216) k 1) from m_of (c := 1) (by omega) (by decide), b1_s, show f_X12_of (nI k) (2 : Int32) M' = some (pv (M' 216) k 2) from m_of (c := 2) (by omega) (by decide), b1_s, a1, b2_s, b1, b2_s, gd_t (i_in (by omega) (by decide)), i_ix (by omega), wr_e, g2, i_1]
      rfl
    · dsimp only
      rw [mst_no (by decide), b2 _ (by decide) (by decide), g23]
    · dsimp only
      by_cases h : p = k
      · subst h; rw [mst_oo]
      · rw [mst_nk h, b2 _ (by decide) (by decide), a2 _ (by decide) (by decide)]
        exact g3 p (by omega)
    · dsimp only
      rw [mst_no z3, b2 z z1 z2, a2 z z1 z2, g4 z z1 z2 z3]
  · obtain ⟨q1, M'⟩ := q
    obtain ⟨rfl, g2, g3, g4⟩ := hq
    dsimp only at g2 g3 g4
    show ∃ M2, f_X12_tires_2 (nI n) M' = _ ∧ _
    unfold f_X12_tires_2
    rw [m_ppl (n := n) (by rw [g2]; exact hn), b1_s, bif_t (i_lee n)]
    have key : ∃ M2, f_X12_tires_l35 0 M' = some ((), M2) ∧ M2 216 = tiK n W n ∧ ∀ z, z ≠ 216 → M2 z = M' z := by
      unfold f_X12_tires_l35
      refine wh_V (fun k (q : Int32 × mM) => q.1 = nI k ∧ q.2 216 = tiK n W k ∧ ∀ z, z ≠ 216 → q.2 z = M' z) _ _ n 100000 _ ⟨rfl, by rw [ti_0]; exact g2, fun _ _ => rfl⟩ (fun k hk q hq => ?_) (fun q hq => ?_) (by omega)
      · obtain ⟨q1, M5⟩ := q
        obtain ⟨rfl, c2, c3⟩ := hq
        dsimp only at c2 c3
        have hn5 : M5 216 0 = nI n := by rw [c2, ti_o (by decide)]; exact hn
        have hU : upd (upd (tiK n W k) (8 + 7 * k + 2) (tireV n W k)) (8 + 7 * k + 4) (wakeV W k) = tiK n W (k + 1) := by
          refine W_ext (fun p c hp hc => ?_) (fun j hj => by rw [upd_ne (by omega), upd_ne (by omega), ti_o hj, ti_o hj])
          rw [pv_upd (by decide) hc, pv_upd (by decide) hc]
          by_cases h4 : p = k ∧ c = 4
          · obtain ⟨rfl, rfl⟩ := h4
            rw [if_pos ⟨rfl, rfl⟩, ti_4 (by omega), decide_eq_true (by omega), decide_eq_true hk]; rfl
          · rw [if_neg h4]
            by_cases h2 : p = k ∧ c = 2
            · obtain ⟨rfl, rfl⟩ := h2
              rw [if_pos ⟨rfl, rfl⟩, ti_2 (by omega), decide_eq_true (by omega), decide_eq_true hk]; rfl
            · rw [if_neg h2]
              by_cases c2' : c = 2
              · subst c2'
                rw [ti_2 hp, ti_2 hp]
                by_cases hpk : p < k
                · rw [decide_eq_true hpk, decide_eq_true (show p < k + 1 by omega)]
                · rw [decide_eq_false hpk, decide_eq_false (show ¬ p < k + 1 by omega)]
              · by_cases c4' : c = 4
                · subst c4'
                  rw [ti_4 hp, ti_4 hp]
                  by_cases hpk : p < k
                  · rw [decide_eq_true hpk, decide_eq_true (show p < k + 1 by omega)]
                  · rw [decide_eq_false hpk, decide_eq_false (show ¬ p < k + 1 by omega)]
                · rw [ti_c hp hc c2' c4', ti_c hp hc c2' c4']
        have e7 : mst M5 216 (8 + 7 * k + 2) (tireV n W k) = rs M5 216 (upd (tiK n W k) (8 + 7 * k + 2) (tireV n W k)) := by rw [mst_rs, c2]
        have h68 : ∀ v, f_X12_tires_68 (nI k) (nI (8 + 7 * k + 4)) v (rs M5 216 (upd (tiK n W k) (8 + 7 * k + 2) (tireV n W k))) = some (.inr (nI (k + 1), rs M5 216 (upd (upd (tiK n W k) (8 + 7 * k + 2) (tireV n W k)) (8 + 7 * k + 4) v))) := fun v => by
          unfold f_X12_tires_68
          rw [gd_t (i_in (by omega) (by decide)), i_ix (by omega), wr_e, rs_st, i_1]
        refine ⟨(nI (k + 1), rs M5 216 (tiK n W (k + 1))), ?_, rfl, by (dsimp only; exact rs_at _ _ _), fun z z1 => by dsimp only; rw [rs_ne z1, c3 z z1]⟩
        show f_X12_tires_35 (nI k) M5 = _
        unfold f_X12_tires_35
        have ho : hoB (upd (tiK n W k) (8 + 7 * k + 2) (tireV n W k)) k = hoB W k := by
          rw [← (ti_B (n := n) (W := W) (k := k)).ho (show k < 8 by omega)]
          unfold hoB upB slB
          rw [pv_un (by decide) (by decide) (Or.inr (by decide)), pv_un (by decide) (by decide) (Or.inr (by decide))]
        have e4 : pv (upd (tiK n W k) (8 + 7 * k + 2) (tireV n W k)) k 4 = pv W k 4 := by
          rw [pv_un (by decide) (by decide) (Or.inr (by decide)), ti_4 (by omega), decide_eq_false (by omega)]; rfl
        rw [m_ppl (n := n) hn5, b1_s, bif_f (i_len hk h8), gd_t (i_in (by omega) (by decide)), show f_X12_at (nI k) (2 : Int32) = nI (8 + 7 * k + 2) from i_at (c := 2), show f_X12_at (nI k) (4 : Int32) = nI (8 + 7 * k + 4) from i_at (c := 4), gd_t (i_in (by omega) (by decide)), i_ix (by omega), i_ix (by omega), c3 226 (by decide), g3 k hk, wr_e, e7, m_holds (by omega), b1_s, rs_at, ho, show f_X12_of (nI k) (4 : Int32) (rs M5 216 (upd (tiK n W k) (8 + 7 * k + 2) (tireV n W k))) = some (pv (rs M5 216 (upd (tiK n W k) (8 + 7 * k + 2) (tireV n W k)) 216) k 4) from m_of (c := 4) (by omega) (by decide), b1_s, rs_at, e4, h68, h68, ← hU]
        unfold wakeV
        cases hoB W k <;> rfl
      · obtain ⟨q1, M5⟩ := q
        obtain ⟨rfl, c2, c3⟩ := hq
        dsimp only at c2 c3
        refine ⟨M5, ?_, c2, c3⟩
        show f_X12_tires_35 (nI n) M5 = _
        unfold f_X12_tires_35
        rw [m_ppl (n := n) (by rw [c2, ti_o (by decide)]; exact hn), b1_s, bif_t (i_lee n)]
    obtain ⟨M2, d1, d2, d3⟩ := key
    exact ⟨M2, by rw [d1]; rfl, d2, fun z z1 z2 z3 z4 => by rw [d3 z z1, g4 z z2 z3 z4]⟩
end
