/-! worlds that are changed -/
def pX (W : Nat → Int32) (F : Nat → Nat → Int32) : Nat → Int32 := fun k => if 8 ≤ k ∧ k < 64 then F ((k - 8) / 7) ((k - 8) % 7) else W k
theorem pX_pv {W : Nat → Int32} {F : Nat → Nat → Int32} {p c : Nat} (hp : p < 8) (hc : c < 7) : pv (pX W F) p c = F p c := by
  unfold pv pX
  rw [if_pos (by omega), show (8 + 7 * p + c - 8) / 7 = p by omega, show (8 + 7 * p + c - 8) % 7 = c by omega]
theorem pX_o {W : Nat → Int32} {F : Nat → Nat → Int32} {k : Nat} (h : k < 8 ∨ 64 ≤ k) : pX W F k = W k := if_neg (by omega)
def pXn (n : Nat) (W : Nat → Int32) (F : Nat → Nat → Int32) : Nat → Int32 := pX W fun p c => bif decide (p < n) then F p c else pv W p c
theorem pXn_in {n : Nat} {W : Nat → Int32} {F : Nat → Nat → Int32} {p c : Nat} (hp : p < n) (h8 : p < 8) (hc : c < 7) : pv (pXn n W F) p c = F p c := by
  unfold pXn
  rw [pX_pv h8 hc, decide_eq_true hp]
  rfl
theorem pXn_out {n : Nat} {W : Nat → Int32} {F : Nat → Nat → Int32} {p c : Nat} (hp : n ≤ p) (h8 : p < 8) (hc : c < 7) : pv (pXn n W F) p c = pv W p c := by
  unfold pXn
  rw [pX_pv h8 hc, decide_eq_false (by omega)]
  rfl
theorem pXn_o {n : Nat} {W : Nat → Int32} {F : Nat → Nat → Int32} {k : Nat} (h : k < 8 ∨ 64 ≤ k) : pXn n W F k = W k := pX_o h
theorem W_ext {A B : Nat → Int32} (h : ∀ p c, p < 8 → c < 7 → pv A p c = pv B p c) (h' : ∀ k, (k < 8 ∨ 64 ≤ k) → A k = B k) : A = B := by
  funext k
  by_cases hk : 8 ≤ k ∧ k < 64
  · have := h ((k - 8) / 7) ((k - 8) % 7) (by omega) (by omega)
    unfold pv at this
    rw [show 8 + 7 * ((k - 8) / 7) + (k - 8) % 7 = k by omega] at this
    exact this
  · exact h' k (by omega)
theorem pv_upd {W : Nat → Int32} {p c q d : Nat} {v : Int32} (hc : c < 7) (hd : d < 7) : pv (upd W (8 + 7 * p + c) v) q d = if q = p ∧ d = c then v else pv W q d := by
  unfold pv
  by_cases h : q = p ∧ d = c
  · obtain ⟨rfl, rfl⟩ := h
    rw [if_pos ⟨rfl, rfl⟩, upd_at]
  · rw [if_neg h, upd_ne (by omega)]
theorem pv_un {W : Nat → Int32} {p c q d : Nat} {v : Int32} (hc : c < 7) (hd : d < 7) (h : q ≠ p ∨ d ≠ c) : pv (upd W (8 + 7 * p + c) v) q d = pv W q d := by
  rw [pv_upd hc hd, if_neg (by omega)]
theorem pv_ua {W : Nat → Int32} {p c : Nat} {v : Int32} (hc : c < 7) : pv (upd W (8 + 7 * p + c) v) p c = v := by
  rw [pv_upd hc hc, if_pos ⟨rfl, rfl⟩]
theorem pv_uo {W : Nat → Int32} {k p c : Nat} {v : Int32} (hp : p < 8) (hc : c < 7) (h : k < 8 ∨ 64 ≤ k) : pv (upd W k v) p c = pv W p c := by
  unfold pv
  rw [upd_ne (by omega)]
def eqP (W W' : Nat → Int32) : Prop := ∀ p c, p < 8 → c < 7 → pv W' p c = pv W p c
section
variable {n : Nat} {W W' : Nat → Int32}
theorem eqP.up (h : eqP W W') {p : Nat} (hp : p < 8) : upB W' p = upB W p := by unfold upB; rw [h p 5 hp (by decide)]
theorem eqP.sl (h : eqP W W') {p : Nat} (hp : p < 8) : slB W' p = slB W p := by unfold slB; rw [h p 3 hp (by decide)]
theorem eqP.ho (h : eqP W W') {p : Nat} (hp : p < 8) : hoB W' p = hoB W p := by unfold hoB; rw [h.up hp, h.sl hp]
theorem eqP.ups (h : eqP W W') : upS n W' = upS n W := set_congr fun p hp => by rw [h.up hp]
theorem eqP.sls (h : eqP W W') : slS n W' = slS n W := set_congr fun p hp => by rw [h.sl hp]
theorem eqP.hos (h : eqP W W') : hoS n W' = hoS n W := set_congr fun p hp => by rw [h.ho hp]
theorem eqP.car (h : eqP W W') {b : Nat → Int32} : rCar n W' b = rCar n W b := by
  unfold rCar
  refine car_congr (fun r p _ _ hp => ?_) (fun r p _ _ hp _ => ?_)
  · unfold rAct; rw [h p 5 hp (by decide)]
  · unfold rBy; exact ⟨h p 0 hp (by decide), by rw [h p 6 hp (by decide), h.hos]⟩
theorem eqP.st (h : eqP W W') {b : Nat → Int32} : stB n W' b = stB n W b := by
  unfold stB gwS hgS
  rw [show setOf (fun p => decide (p < n) && (hoB W' p && !decide (rCar n W' b p ≤ pv W' p 2))) = setOf (fun p => decide (p < n) && (hoB W p && !decide (rCar n W b p ≤ pv W p 2))) from set_congr fun p hp => by rw [h.ho hp, h.car, h p 2 hp (by decide)],
    show setOf (fun p => decide (p < n) && hgB n W' p) = setOf (fun p => decide (p < n) && hgB n W p) from set_congr fun p hp => by unfold hgB rBy; rw [h p 5 hp (by decide), h p 6 hp (by decide), h.hos]]
theorem WF.hd (hw : WF n W) (e : eqP W W') (e0 : W' 0 = W 0) (e1 : ∃ x, x ≤ 12 ∧ W' 1 = nI x) (e3 : ∃ x, x ≤ 23 ∧ W' 3 = nI x) (e4 : ∃ x, x ≤ 9999 ∧ W' 4 = nI x) (e5 : ∃ x, x ≤ 8 ∧ W' 5 = nI x) : WF n W' := by
  obtain ⟨a0, a1, a2, a3, -⟩ := hw
  refine ⟨by rw [e0]; exact a0, a1, fun p hp => ?_, fun p hp => ?_, e1, e3, e4, e5⟩
  · obtain ⟨b1, b2, b3, b4, b5⟩ := a2 p hp
    rw [e p 3 (by omega) (by decide), e p 5 (by omega) (by decide), e p 6 (by omega) (by decide)]
    refine ⟨b1, b2, b3, b4, fun q hq g => ?_⟩
    rw [e q 5 hq (by decide), e.up hq]
    exact b5 q hq g
  · rw [e p 0 (by omega) (by decide), e p 1 (by omega) (by decide), e p 2 (by omega) (by decide), e p 4 (by omega) (by decide)]
    exact a3 p hp
/-- a tower that follows a change of the world -/
theorem TR.up {M M' : mM} {o : Nat} (h : TR n W M o) (e0 : M' o 0 = M o 0) (e1 : M' o 1 = upS n W') (e2 : M' o 2 = slS n W') (e3 : M' o 3 = W' 3) (e4 : M' o 4 = W' 4) (e5 : M' o 5 = W' 5) (e6 : M' o 6 = W' 7) (e7 : M' o 7 = W' 1)
    (er : ∀ p, p < n → M' (o + 1) p = pv W' p 0 ∧ M' (o + 2) p = pv W' p 1 ∧ M' (o + 3) p = pv W' p 2 ∧ M' (o + 4) p = pv W' p 4 ∧ M' (o + 6) p = pv W' p 6 ∧ (upB W' p = true → M' (o + 5) p = pv W' p 5))
    (ez : ∀ p, n ≤ p → p < 8 → M' (o + 3) p = 0 ∧ M' (o + 4) p = 0 ∧ M' (o + 6) p = 0) (el : M' (o + 9) = M (o + 9)) (el10 : M' (o + 10) = M (o + 10)) (w6 : W' 6 = W 6) (wl : ∀ k, 64 ≤ k → k < 424 → W' k = W k) : TR n W' M' o := by
  obtain ⟨a0, a1, a2, a3, a4, a5, a6, a7, a8, a9, x, c, b1, b2, b3, b4, b5, b6⟩ := h
  refine ⟨by rw [e0]; exact a0, e1, e2, e3, e4, e5, e6, e7, er, ez, x, c, b1, b2, by rw [el]; exact b3, by rw [el]; exact b4, by rw [w6]; exact b5, fun a ha w hw => ?_⟩
  rw [wl _ (by omega) (by omega), show o + 9 + 1 = o + 10 from rfl, el10]
  exact b6 a ha w hw
/-- a change of the world's head alone -/
theorem TR.hd {M M' : mM} {o : Nat} (h : TR n W M o) (h8 : n ≤ 8) (e : eqP W W') (e0 : M' o 0 = M o 0) (e1 : M' o 1 = M o 1) (e2 : M' o 2 = M o 2) (e3 : M' o 3 = W' 3) (e4 : M' o 4 = W' 4) (e5 : M' o 5 = W' 5) (e6 : M' o 6 = W' 7) (e7 : M' o 7 = W' 1)
    (er : ∀ z, o < z → z ≤ o + 10 → M' z = M z) (w6 : W' 6 = W 6) (wl : ∀ k, 64 ≤ k → k < 424 → W' k = W k) : TR n W' M' o := by
  have a1 := h.2.1
  have a2 := h.2.2.1
  refine h.up e0 (by rw [e1, e.ups, a1]) (by rw [e2, e.sls, a2]) e3 e4 e5 e6 e7 (fun p hp => ?_) (fun p hp hp8 => ?_) (er _ (by omega) (by omega)) (er _ (by omega) (by omega)) w6 wl
  · rw [er (o + 1) (by omega) (by omega), er (o + 2) (by omega) (by omega), er (o + 3) (by omega) (by omega), er (o + 4) (by omega) (by omega), er (o + 5) (by omega) (by omega), er (o + 6) (by omega) (by omega), e p 0 (by omega) (by decide), e p 1 (by omega) (by decide), e p 2 (by omega) (by decide), e p 4 (by omega) (by decide), e p 5 (by omega) (by decide), e p 6 (by omega) (by decide), e.up (by omega)]
    exact h.pp hp
  · rw [er (o + 3) (by omega) (by omega), er (o + 4) (by omega) (by omega), er (o + 6) (by omega) (by omega)]
    exact h.p0 hp hp8
theorem TS.hd {M M' : mM} {o : Nat} (h : TS n W M o) (h8 : n ≤ 8) (e : eqP W W') (e0 : M' o 0 = M o 0) (e1 : M' o 1 = M o 1) (e2 : M' o 2 = M o 2) (e3 : M' o 3 = W' 3) (e4 : M' o 4 = W' 4) (e5 : M' o 5 = W' 5) (e6 : M' o 6 = W' 7) (e7 : M' o 7 = W' 1) (e14 : M' o 14 = M o 14)
    (er : ∀ z, o < z → z ≤ o + 10 → M' z = M z) (w6 : W' 6 = W 6) (wl : ∀ k, 64 ≤ k → k < 424 → W' k = W k) : TS n W' M' o := by
  refine ⟨h.1.hd h8 e e0 e1 e2 e3 e4 e5 e6 e7 er w6 wl, ?_, fun p hp => ?_⟩
  · rw [e14, h.2.1]
    exact (tTrod_eq (fun k hk => by rw [er _ (by omega) (by omega)]) (Nat.le_refl 8)).symm
  · rw [er _ (by omega) (by omega), e.car]
    exact h.2.2 p hp
/-- what a tower's settling does -/
theorem TR.settle {M : mM} {o : Nat} (h : TR n W M o) (ho : mTwB o = true) : ∃ M1, f_X9_settle o M = some ((), M1) ∧ TS n W M1 o ∧ (∀ z, z ≠ o → z ≠ o + 7 → M1 z = M z) ∧ ∀ k, k ≠ 14 → M1 o k = M o k := by
  rw [T_settle ho]
  have eF : ∀ z, z ≠ o → z ≠ o + 7 → rs (rs M o (upd (M o) 14 (tTrod M o 8))) (o + 7) (tCar M o (M o 1) (M o 1 &&& (M o 2 ^^^ (-1 : Int32))) (M (o + 7))) z = M z := fun z h1 h2 => by rw [rs_ne h2, rs_ne h1]
  have e0 : ∀ k, k ≠ 14 → rs (rs M o (upd (M o) 14 (tTrod M o 8))) (o + 7) (tCar M o (M o 1) (M o 1 &&& (M o 2 ^^^ (-1 : Int32))) (M (o + 7))) o k = M o k := fun k hk => by rw [rs_ne (by omega), rs_at, upd_ne hk]
  refine ⟨_, rfl, ⟨h.frame (fun j hj h7 h8 k hk => ?_) (eF _ (by omega) (by omega)), ?_, fun p hp => ?_⟩, eF, e0⟩
  · by_cases hj0 : j = 0
    · subst hj0
      exact e0 k (by have := hk rfl; omega)
    · rw [eF (o + j) (by omega) (by omega)]
  · rw [rs_ne (by omega), rs_at, upd_at]
    exact (tTrod_eq (fun k hk => by rw [eF _ (by omega) (by omega)]) (Nat.le_refl 8)).symm
  · have h1 : M o 1 = upS n W := h.2.1
    rw [rs_at, h.ho, h1, h.car sub_rf, caG_r]
    exact rCar_in hp
/-- and its standing as it is -/
theorem TR.stands0 {M : mM} {o : Nat} (h : TR n W M o) (ho : mTwB o = true) : ∃ M', f_X9_stands o (M o 1) (M o 2) M = some (stB n W (fun _ => 0), M') ∧ ∀ z, z ≠ o + 8 → M' z = M z := by
  have h1 : M o 1 = upS n W := h.2.1
  obtain ⟨M', e, hf⟩ := h.stands ho (ups := M o 1) (sl := M o 2) (by rw [h1]; exact sub_rf)
  refine ⟨M', ?_, hf⟩
  rw [e, h.ho, h1, stB_G]
end
