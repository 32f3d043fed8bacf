/-! the whole relation, and what does not touch it -/
def eqW (W W' : Nat → Int32) : Prop := ∀ k, k < 424 → W k = W' k
theorem eqW.pvE {W W' : Nat → Int32} (h : eqW W W') {p c : Nat} (hp : p < 8) (hc : c < 7) : pv W p c = pv W' p c := h _ (by omega)
theorem eqW.sy {W W' : Nat → Int32} (h : eqW W W') : eqW W' W := fun k hk => (h k hk).symm
section
variable {n : Nat} {W W' : Nat → Int32}
theorem eqW.up (h : eqW W W') {p : Nat} (hp : p < 8) : upB W p = upB W' p := by unfold upB; rw [h.pvE hp (by decide)]
theorem eqW.sl (h : eqW W W') {p : Nat} (hp : p < 8) : slB W p = slB W' p := by unfold slB; rw [h.pvE hp (by decide)]
theorem eqW.ho (h : eqW W W') {p : Nat} (hp : p < 8) : hoB W p = hoB W' p := by unfold hoB; rw [h.up hp, h.sl hp]
theorem eqW.ups (h : eqW W W') : upS n W = upS n W' := set_congr fun p hp => by rw [h.up hp]
theorem eqW.sls (h : eqW W W') : slS n W = slS n W' := set_congr fun p hp => by rw [h.sl hp]
theorem eqW.hos (h : eqW W W') : hoS n W = hoS n W' := set_congr fun p hp => by rw [h.ho hp]
theorem eqW.car (h : eqW W W') {b : Nat → Int32} : rCar n W b = rCar n W' b := by
  unfold rCar
  refine car_congr (fun r p _ _ hp => ?_) (fun r p _ _ hp _ => ?_)
  · unfold rAct; rw [h.pvE hp (by decide)]
  · unfold rBy; exact ⟨h.pvE hp (by decide), by rw [h.pvE hp (by decide), h.hos]⟩
theorem eqW.st (h : eqW W W') {b : Nat → Int32} : stB n W b = stB n W' b := by
  unfold stB gwS hgS
  rw [show setOf (fun p => decide (p < n) && (hoB W p && !decide (rCar n W b p ≤ pv W p 2))) = setOf (fun p => decide (p < n) && (hoB W' p && !decide (rCar n W' b p ≤ pv W' p 2))) from set_congr fun p hp => by rw [h.ho hp, h.car, h.pvE hp (by decide)],
    show setOf (fun p => decide (p < n) && hgB n W p) = setOf (fun p => decide (p < n) && hgB n W' p) from set_congr fun p hp => by unfold hgB rBy; rw [h.pvE hp (by decide), h.pvE hp (by decide), h.hos]]
theorem WF.eq (h : eqW W W') (hw : WF n W) : WF n W' := by
  obtain ⟨a0, a1, a2, a3, a4, a5, a6, a7⟩ := hw
  refine ⟨by rw [← h 0 (by decide)]; exact a0, a1, fun p hp => ?_, fun p hp => ?_, by rw [← h 1 (by decide)]; exact a4, by rw [← h 3 (by decide)]; exact a5, by rw [← h 4 (by decide)]; exact a6, by rw [← h 5 (by decide)]; exact a7⟩
  · obtain ⟨b1, b2, b3, b4, b5⟩ := a2 p hp
    rw [← h.pvE (by omega) (by decide), ← h.pvE (by omega) (by decide), ← h.pvE (by omega) (by decide)]
    refine ⟨b1, b2, b3, b4, fun q hq e => ?_⟩
    rw [← h.pvE hq (by decide), ← h.up hq]
    exact b5 q hq e
  · rw [← h.pvE (by omega) (by decide), ← h.pvE (by omega) (by decide), ← h.pvE (by omega) (by decide), ← h.pvE (by omega) (by decide)]
    exact a3 p hp
theorem TR.eq (h : eqW W W') (h8 : n ≤ 8) {M : mM} {o : Nat} (ht : TR n W M o) : TR n W' M o := by
  obtain ⟨a0, a1, a2, a3, a4, a5, a6, a7, a8, a9, x, c, b1, b2, b3, b4, b5, b6⟩ := ht
  refine ⟨a0, by rw [← h.ups]; exact a1, by rw [← h.sls]; exact a2, by rw [← h 3 (by decide)]; exact a3, by rw [← h 4 (by decide)]; exact a4, by rw [← h 5 (by decide)]; exact a5, by rw [← h 7 (by decide)]; exact a6, by rw [← h 1 (by decide)]; exact a7, fun p hp => ?_, a9, x, c, b1, b2, b3, b4, by rw [← h 6 (by decide)]; exact b5, fun a ha w hw => ?_⟩
  · rw [← h.pvE (by omega) (by decide), ← h.pvE (by omega) (by decide), ← h.pvE (by omega) (by decide), ← h.pvE (by omega) (by decide), ← h.pvE (by omega) (by decide), ← h.pvE (by omega) (by decide), ← h.up (by omega)]
    exact a8 p hp
  · rw [← h _ (by omega)]
    exact b6 a ha w hw
theorem TS.eq (h : eqW W W') (h8 : n ≤ 8) {M : mM} {o : Nat} (ht : TS n W M o) : TS n W' M o := ⟨ht.1.eq h h8, ht.2.1, fun p hp => by rw [← h.car]; exact ht.2.2 p hp⟩
end
/-- the rows of a tower that count are the same, maybe at another place -/
def eqT (M : mM) (o : Nat) (M' : mM) (o' : Nat) : Prop := (∀ k, (k ≤ 7 ∨ k = 14) → M' o' k = M o k) ∧ (∀ j, 1 ≤ j → j ≤ 7 → ∀ k, k < 8 → M' (o' + j) k = M (o + j) k) ∧ (∀ k, (k = 1 ∨ k = 2) → M' (o' + 9) k = M (o + 9) k) ∧ (∀ k, k < 360 → M' (o' + 10) k = M (o + 10) k)
theorem tTrod_eq {M M' : mM} {o o' : Nat} (h : ∀ k, k < 8 → M' (o' + 6) k = M (o + 6) k) : ∀ {k : Nat}, k ≤ 8 → tTrod M' o' k = tTrod M o k := by
  intro k
  induction k with
  | zero => intro _; rfl
  | succ k ih =>
    intro hk
    show tTrod M' o' k ||| M' (o' + 6) k = tTrod M o k ||| M (o + 6) k
    rw [ih (by omega), h k (by omega)]
theorem TR.mv {n : Nat} {W : Nat → Int32} {M M' : mM} {o o' : Nat} (h : TR n W M o) (h8 : n ≤ 8) (e : eqT M o M' o') : TR n W M' o' := by
  obtain ⟨a0, a1, a2, a3, a4, a5, a6, a7, a8, a9, x, c, b1, b2, b3, b4, b5, b6⟩ := h
  obtain ⟨e1, e2, e3, e4⟩ := e
  refine ⟨by rw [e1 _ (by decide)]; exact a0, by rw [e1 _ (by decide)]; exact a1, by rw [e1 _ (by decide)]; exact a2, by rw [e1 _ (by decide)]; exact a3, by rw [e1 _ (by decide)]; exact a4, by rw [e1 _ (by decide)]; exact a5, by rw [e1 _ (by decide)]; exact a6, by rw [e1 _ (by decide)]; exact a7, fun p hp => ?_, fun p hp hp8 => ?_, x, c, b1, b2, by rw [e3 _ (by decide)]; exact b3, by rw [e3 _ (by decide)]; exact b4, b5, fun a ha w hw => ?_⟩
  · rw [e2 1 (by decide) (by decide) p (by omega), e2 2 (by decide) (by decide) p (by omega), e2 3 (by decide) (by decide) p (by omega), e2 4 (by decide) (by decide) p (by omega), e2 5 (by decide) (by decide) p (by omega), e2 6 (by decide) (by decide) p (by omega)]
    exact a8 p hp
  · rw [e2 3 (by decide) (by decide) p hp8, e2 4 (by decide) (by decide) p hp8, e2 6 (by decide) (by decide) p hp8]
    exact a9 p hp hp8
  · have : (x + 59 - a) % 60 < 60 := Nat.mod_lt _ (by decide)
    rw [show o' + 9 + 1 = o' + 10 from rfl, e4 _ (by omega)]
    exact b6 a ha w hw
theorem TS.mv {n : Nat} {W : Nat → Int32} {M M' : mM} {o o' : Nat} (h : TS n W M o) (h8 : n ≤ 8) (e : eqT M o M' o') : TS n W M' o' := by
  refine ⟨h.1.mv h8 e, ?_, fun p hp => ?_⟩
  · rw [e.1 14 (by decide), h.2.1]
    exact (tTrod_eq (fun k hk => e.2.1 6 (by decide) (by decide) k hk) (Nat.le_refl 8)).symm
  · rw [e.2.1 7 (by decide) (by decide) p hp]
    exact h.2.2 p hp
theorem eqT.rf {M M' : mM} {o : Nat} (h : ∀ j, j ≤ 10 → j ≠ 8 → M' (o + j) = M (o + j)) : eqT M o M' o := ⟨fun k _ => by rw [show M' o = M o from h 0 (by decide) (by decide)], fun j _ h2 k _ => by rw [h j (by omega) (by omega)], fun k _ => by rw [h 9 (by decide) (by decide)], fun k _ => by rw [h 10 (by decide) (by decide)]⟩
/-- a step of a law, in the class's words and in the reference's -/
def CR (s c a : Int32) : Prop := (∃ x, x ≤ 9 ∧ s = nI (1000 + x) ∧ c = nI x) ∨ (c = 10 ∧ s = a ∧ ∃ x, x ≤ 999 ∧ a = nI x) ∨ (s = 1010 ∧ c = 14) ∨ (s = 1011 ∧ c = 15) ∨ (s = 1012 ∧ c = 16) ∨ (s = 1013 ∧ c = 11) ∨ (s = 1014 ∧ c = 12) ∨ (s = 1015 ∧ c = 13)
/-- what a step does to what lies on the stack: true for a truth value -/
def tyS (c : Int32) (T T' : List Bool) : Prop := (∃ x, x ≤ 6 ∧ c = nI x ∧ T' = false :: T) ∨ (∃ x, 7 ≤ x ∧ x ≤ 9 ∧ c = nI x ∧ T' = true :: T) ∨ (c = 10 ∧ T' = false :: T) ∨ (c = 14 ∧ ∃ r, T = true :: r ∧ T' = true :: r) ∨ ((c = 15 ∨ c = 16) ∧ ∃ r, T = true :: true :: r ∧ T' = true :: r) ∨ (c = 11 ∧ ∃ r, T = false :: false :: r ∧ T' = false :: r) ∨ ((c = 12 ∨ c = 13) ∧ ∃ r, T = false :: false :: r ∧ T' = true :: r)
def sgE (e : Nat → Nat) (i : Nat) : Nat := match i with | 0 => 0 | i + 1 => e i
/-- a law of the class (its five rows that count) and that of a world -/
def LW (W : Nat → Int32) (M : mM) (o : Nat) : Prop := (M o 0 = 0 ∧ W 2 = 0) ∨ (M o 0 = 1 ∧ W 2 = 1 ∧ ∃ m, m ≤ 12 ∧ M o 1 = nI m ∧ W 424 = nI m ∧ ∃ (e : Nat → Nat) (T : Nat → List Bool), ∀ i, i < m →
  (∃ k, k ≤ 2 ∧ M (o + 1) i = nI k ∧ W (425 + 4 * i) = nI k) ∧ (∃ a, a ≤ 100 ∧ M (o + 2) i = nI a ∧ W (426 + 4 * i) = nI a) ∧ M (o + 3) i = nI (e i) ∧ W (427 + 4 * i) = nI (sgE e i) ∧ W (428 + 4 * i) = nI (e i) ∧ sgE e i ≤ e i ∧ e i ≤ 400 ∧
  T (sgE e i) = [] ∧ ∀ j, sgE e i ≤ j → j < e i → CR (M (o + 4) j) (W (473 + 2 * j)) (W (474 + 2 * j)) ∧ (T j).length ≤ 60 ∧ (j + 1 < e i → tyS (W (473 + 2 * j)) (T j) (T (j + 1))) ∧ (j + 1 = e i → tyS (W (473 + 2 * j)) (T j) [true]))
