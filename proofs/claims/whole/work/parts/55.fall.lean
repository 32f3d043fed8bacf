/-! a FALL, round by round -/
def dnS (n : Nat) (W : Nat → Int32) : Int32 := gwS n W (fun _ => 0) ||| hgS n W
def flK (W : Nat → Int32) (g d : Int32) (b : Nat → Int32) (r : Int32) : Nat → Nat → Int32
  | 0 => W
  | k + 1 => bif hs d k then upd (tellW (flK W g d b r k) k r (mB (!hs g k)) (b k)) (8 + 7 * k + 3) 0 else flK W g d b r k
theorem flK_s (W : Nat → Int32) (g d : Int32) (b : Nat → Int32) (r : Int32) (k : Nat) : flK W g d b r (k + 1) = bif hs d k then upd (tellW (flK W g d b r k) k r (mB (!hs g k)) (b k)) (8 + 7 * k + 3) 0 else flK W g d b r k := rfl
def cntK (d : Int32) : Nat → Nat
  | 0 => 0
  | k + 1 => cntK d k + (bif hs d k then 1 else 0)
theorem cntK_s (d : Int32) (k : Nat) : cntK d (k + 1) = cntK d k + (bif hs d k then 1 else 0) := rfl
def ordK (A : Nat → Int32) (f : Nat) (d : Int32) : Nat → Nat → Int32
  | 0 => A
  | k + 1 => bif hs d k then upd (ordK A f d k) (f + cntK d k) (nI k) else ordK A f d k
theorem ordK_s (A : Nat → Int32) (f : Nat) (d : Int32) (k : Nat) : ordK A f d (k + 1) = bif hs d k then upd (ordK A f d k) (f + cntK d k) (nI k) else ordK A f d k := rfl
theorem ordK_cg {A B : Nat → Int32} {f : Nat} {d : Int32} (h : ∀ i, i < f → A i = B i) : ∀ k i, i < f + cntK d k → ordK A f d k i = ordK B f d k i := by
  intro k
  induction k with
  | zero => exact h
  | succ k ih =>
    intro i hi
    rw [ordK_s, ordK_s]
    rw [cntK_s] at hi
    cases e : hs d k
    · rw [e] at hi
      exact ih i hi
    · rw [e] at hi
      rw [cond_true, cond_true]
      by_cases h2 : i = f + cntK d k
      · subst h2; rw [upd_at, upd_at]
      · rw [upd_ne h2, upd_ne h2]
        exact ih i (by simp only [cond_true] at hi; omega)
theorem cntK_mono {d : Int32} : ∀ m k, k ≤ m → cntK d k ≤ cntK d m := by
  intro m
  induction m with
  | zero => intro k hk; rw [show k = 0 by omega]; exact Nat.le_refl _
  | succ m ih =>
    intro k hk
    by_cases h : k ≤ m
    · exact Nat.le_trans (ih k h) (by rw [cntK_s]; omega)
    · rw [show k = m + 1 by omega]; exact Nat.le_refl _
theorem cntK_lt {d : Int32} {k m : Nat} (hk : k < m) (h : hs d k = true) : cntK d k + 1 ≤ cntK d m := by
  have := cntK_mono (d := d) m (k + 1) (by omega)
  rw [cntK_s, h] at this
  exact this
theorem cntK_sub {a d : Int32} (h : sub d a) : ∀ k, k ≤ 8 → cntK (a &&& (d ^^^ (-1 : Int32))) k + cntK d k = cntK a k := by
  intro k
  induction k with
  | zero => intro _; rfl
  | succ k ih =>
    intro hk
    have ih := ih (by omega)
    rw [cntK_s, cntK_s, cntK_s, hs_and, hs_nn (by omega)]
    have := h k (by omega)
    cases e : hs d k
    · cases hs a k <;> simp only [Bool.not_false, Bool.and_true, cond_false, cond_true] <;> omega
    · rw [this e]
      simp only [Bool.not_true, Bool.and_false, cond_false, cond_true]
      omega
theorem cntK_le (d : Int32) : ∀ k, cntK d k ≤ k := by
  intro k
  induction k with
  | zero => exact Nat.le_refl _
  | succ k ih =>
    rw [cntK_s]
    cases hs d k
    · simp only [cond_false]; omega
    · simp only [cond_true]; omega
theorem cntK_pos {d : Int32} (h8 : S8 d) (h : d ≠ 0) : 1 ≤ cntK d 8 := by
  have : ∃ k, k < 8 ∧ hs d k = true := by
    refine Classical.byContradiction fun hc => h (S8.ext h8 S8.zero fun j hj => ?_)
    rw [hs_0]
    cases e : hs d j
    · rfl
    · exact absurd ⟨j, hj, e⟩ hc
  obtain ⟨k, hk, e⟩ := this
  have := cntK_lt hk e
  omega
theorem cntK_0 {d : Int32} (h8 : S8 d) (h : cntK d 8 = 0) : d = 0 := by
  refine Classical.byContradiction fun hc => ?_
  have := cntK_pos h8 hc
  omega
section
variable {n : Nat} {W : Nat → Int32}
section
variable {g d : Int32} {b : Nat → Int32} {r : Int32}
theorem fl_pv {p c : Nat} (hp : p < 8) (hc : c < 7) : ∀ k, k ≤ 8 → pv (flK W g d b r k) p c = if c = 3 ∧ p < k ∧ hs d p = true then 0 else pv W p c := by
  intro k
  induction k with
  | zero => intro _; rw [if_neg (by omega)]; rfl
  | succ k ih =>
    intro hk
    have ih := ih (by omega)
    rw [flK_s]
    cases e : hs d k
    · rw [cond_false, ih]
      by_cases h : c = 3 ∧ p < k ∧ hs d p = true
      · rw [if_pos h, if_pos ⟨h.1, by omega, h.2.2⟩]
      · rw [if_neg h, if_neg fun z => h ⟨z.1, by
          have : p ≠ k := fun q => by rw [q, e] at z; exact absurd z.2.2 (by decide)
          omega, z.2.2⟩]
    · rw [cond_true, pv_upd (by decide) hc, tW_pv hp hc, ih]
      by_cases h : p = k ∧ c = 3
      · rw [if_pos h, if_pos ⟨h.2, by omega, by rw [h.1]; exact e⟩]
      · rw [if_neg h]
        by_cases h2 : c = 3 ∧ p < k ∧ hs d p = true
        · rw [if_pos h2, if_pos ⟨h2.1, by omega, h2.2.2⟩]
        · rw [if_neg h2, if_neg fun z => h2 ⟨z.1, by
            have : p ≠ k := fun q => h ⟨q, z.1⟩
            omega, z.2.2⟩]
theorem fl_h {j : Nat} (h6 : j ≠ 6) (hj : j < 8 ∨ 424 ≤ j) : ∀ k, k ≤ 8 → flK W g d b r k j = W j := by
  intro k
  induction k with
  | zero => intro _; rfl
  | succ k ih =>
    intro hk
    rw [flK_s]
    cases hs d k
    · exact ih (by omega)
    · rw [cond_true, upd_ne (by omega), tW_o h6 (by omega)]
      exact ih (by omega)
theorem fl_n (hd : ∀ p, n ≤ p → p < 8 → hs d p = false) : ∀ m, n ≤ m → m ≤ 8 → flK W g d b r m = flK W g d b r n := by
  intro m
  induction m with
  | zero => intro h1 _; rw [show n = 0 by omega]
  | succ m ih =>
    intro h1 h2
    by_cases hm : n ≤ m
    · rw [flK_s, hd m hm (by omega), cond_false, ih hm (by omega)]
    · rw [show n = m + 1 by omega]
theorem ord_n {A : Nat → Int32} {f : Nat} (hd : ∀ p, n ≤ p → p < 8 → hs d p = false) : ∀ m, n ≤ m → m ≤ 8 → ordK A f d m = ordK A f d n ∧ cntK d m = cntK d n := by
  intro m
  induction m with
  | zero => intro h1 _; rw [show n = 0 by omega]; exact ⟨rfl, rfl⟩
  | succ m ih =>
    intro h1 h2
    by_cases hm : n ≤ m
    · rw [ordK_s, cntK_s, hd m hm (by omega), cond_false, cond_false, Nat.add_zero]
      exact ih hm (by omega)
    · rw [show n = m + 1 by omega]; exact ⟨rfl, rfl⟩
end
theorem dn_8 : S8 (dnS n W) := S8.or (S8.set _) (S8.set _)
theorem dn_hs {p : Nat} (hp : p < 8) : hs (dnS n W) p = (decide (p < n) && ((hoB W p && !decide (rCar n W (fun _ => 0) p ≤ pv W p 2)) || hgB n W p)) := by
  unfold dnS gwS hgS
  rw [hs_or, hs_set8 hp, hs_set8 hp]
  cases decide (p < n) <;> rfl
theorem dn_n {p : Nat} (h : n ≤ p) (hp : p < 8) : hs (dnS n W) p = false := by rw [dn_hs hp, decide_eq_false (by omega)]; rfl
theorem dn_up : sub (dnS n W) (upS n W) := fun p hp h => by
  rw [dn_hs hp, Bool.and_eq_true, Bool.or_eq_true] at h
  rw [hs_ups hp, h.1, Bool.true_and]
  rcases h.2 with q | q
  · rw [Bool.and_eq_true] at q
    have := q.1
    unfold hoB at this
    rw [Bool.and_eq_true] at this
    exact this.1
  · unfold hgB at q
    rw [Bool.and_eq_true] at q
    cases z : upB W p
    · rw [upB_le z] at q; exact absurd q.1 (by decide)
    · rfl
theorem st_dn : stB n W (fun _ => 0) = decide (dnS n W = 0) := rfl
/-- a round's world -/
def flW (n : Nat) (W : Nat → Int32) (r : Int32) : Nat → Int32 := flK W (gwS n W (fun _ => 0)) (dnS n W) (rCar n W (fun _ => 0)) r n
def rndW (n : Nat) (W : Nat → Int32) (r : Int32) : Nat → Int32 := wDown n (flW n W r) (dnS n W)
def fW (n : Nat) (W : Nat → Int32) : Nat → Nat → Int32
  | 0 => W
  | k + 1 => rndW n (fW n W k) (nI (k + 1))
def fF (n : Nat) (W : Nat → Int32) : Nat → Nat
  | 0 => 0
  | k + 1 => fF n W k + cntK (dnS n (fW n W k)) 8
def fA (n : Nat) (W : Nat → Int32) : Nat → Nat → Int32
  | 0 => fun _ => 0
  | k + 1 => ordK (fA n W k) (fF n W k) (dnS n (fW n W k)) 8
def fstK (c : Nat → Bool) : Nat → Nat
  | 0 => 0
  | m + 1 => bif c (fstK c m) then fstK c m else m + 1
theorem fstK_p (c : Nat → Bool) : ∀ m, fstK c m ≤ m ∧ (∀ j, j < fstK c m → c j = false) ∧ (c (fstK c m) = true ∨ fstK c m = m) := by
  intro m
  induction m with
  | zero => exact ⟨Nat.le_refl _, fun j hj => absurd hj (Nat.not_lt_zero j), Or.inr rfl⟩
  | succ m ih =>
    obtain ⟨h1, h2, h3⟩ := ih
    show (bif c (fstK c m) then fstK c m else m + 1) ≤ m + 1 ∧ (∀ j, j < (bif c (fstK c m) then fstK c m else m + 1) → c j = false) ∧ (c (bif c (fstK c m) then fstK c m else m + 1) = true ∨ (bif c (fstK c m) then fstK c m else m + 1) = m + 1)
    cases e : c (fstK c m)
    · rw [cond_false]
      have hm : fstK c m = m := by
        rcases h3 with h3 | h3
        · rw [e] at h3; cases h3
        · exact h3
      refine ⟨Nat.le_refl _, fun j hj => ?_, Or.inr rfl⟩
      by_cases hj2 : j < m
      · exact h2 j (by omega)
      · rw [show j = fstK c m by omega]; exact e
    · rw [cond_true]
      exact ⟨by omega, h2, Or.inl e⟩
def fK (n : Nat) (W : Nat → Int32) : Nat := fstK (fun k => stB n (fW n W k) (fun _ => 0)) 8
def falW (n : Nat) (W : Nat → Int32) : Nat → Int32 := fW n W (fK n W)
theorem flW_pv (h8 : n ≤ 8) {r : Int32} {p c : Nat} (hp : p < 8) (hc : c < 7) (h3 : c ≠ 3) : pv (flW n W r) p c = pv W p c := by
  unfold flW
  rw [fl_pv hp hc n h8, if_neg (by omega)]
theorem flW_3 (h8 : n ≤ 8) {r : Int32} {p : Nat} (hp : p < n) : pv (flW n W r) p 3 = bif hs (dnS n W) p then 0 else pv W p 3 := by
  unfold flW
  rw [fl_pv (by omega) (by decide) n h8]
  cases e : hs (dnS n W) p
  · rw [if_neg (by simp)]; rfl
  · rw [if_pos ⟨rfl, hp, rfl⟩]; rfl
theorem flW_h (h8 : n ≤ 8) {r : Int32} {j : Nat} (h6 : j ≠ 6) (hj : j < 8 ∨ 424 ≤ j) : flW n W r j = W j := fl_h h6 hj n h8
theorem rnd_h (h8 : n ≤ 8) {r : Int32} {j : Nat} (h6 : j ≠ 6) (hj : j < 8 ∨ 424 ≤ j) : rndW n W r j = W j := by
  unfold rndW
  rw [wD_o (by omega), flW_h h8 h6 hj]
theorem flW_up (h8 : n ≤ 8) {r : Int32} {p : Nat} (hp : p < 8) : upB (flW n W r) p = upB W p := by
  unfold upB
  rw [flW_pv h8 hp (by decide) (by decide)]
theorem flW_ups (h8 : n ≤ 8) {r : Int32} : upS n (flW n W r) = upS n W := set_congr fun p hp => by rw [flW_up h8 hp]
theorem rnd_ups (h8 : n ≤ 8) {r : Int32} : upS n (rndW n W r) = upS n W &&& (dnS n W ^^^ (-1 : Int32)) := by
  unfold rndW
  rw [wD_ups h8, flW_ups h8]
theorem rnd_sls (h8 : n ≤ 8) {r : Int32} : slS n (rndW n W r) = slS n W &&& (dnS n W ^^^ (-1 : Int32)) := by
  unfold rndW
  rw [wD_sls]
  refine S8.ext (S8.set _) (S8.andl (S8.set _)) fun j hj => ?_
  rw [hs_and, hs_nn (by omega), hs_sls hj, hs_sls hj]
  by_cases hjn : j < n
  · unfold slB
    rw [flW_3 h8 hjn, decide_eq_true hjn, Bool.true_and, Bool.true_and]
    cases hs (dnS n W) j
    · rw [cond_false, Bool.not_false, Bool.and_true]
    · rw [cond_true, Bool.not_true, Bool.and_false]; rfl
  · rw [decide_eq_false hjn]; rfl
theorem WF.fl (hw : WF n W) {r : Int32} : WF n (flW n W r) := by
  have h8 := hw.2.1
  obtain ⟨a0, a1, a2, a3, a4, a5, a6, a7⟩ := hw
  refine ⟨by rw [flW_h h8 (by decide) (by decide)]; exact a0, a1, fun p hp => ?_, fun p hp => ?_, by rw [flW_h h8 (by decide) (by decide)]; exact a4, by rw [flW_h h8 (by decide) (by decide)]; exact a5, by rw [flW_h h8 (by decide) (by decide)]; exact a6, by rw [flW_h h8 (by decide) (by decide)]; exact a7⟩
  · obtain ⟨b1, b2, b3, b4, b5⟩ := a2 p hp
    rw [flW_3 h8 hp, flW_pv h8 (by omega) (by decide) (by decide), flW_pv h8 (by omega) (by decide) (by decide)]
    refine ⟨?_, b2, b3, b4, fun q hq g => ?_⟩
    · cases hs (dnS n W) p
      · exact b1
      · exact Or.inl rfl
    · rw [flW_pv h8 hq (by decide) (by decide), flW_up h8 hq]
      exact b5 q hq g
  · rw [flW_pv h8 (by omega) (by decide) (by decide), flW_pv h8 (by omega) (by decide) (by decide), flW_pv h8 (by omega) (by decide) (by decide), flW_pv h8 (by omega) (by decide) (by decide)]
    exact a3 p hp
theorem WF.rnd (hw : WF n W) {r : Int32} : WF n (rndW n W r) := hw.fl.dn
theorem WF.fW (hw : WF n W) : ∀ k, WF n (fW n W k) := by
  intro k
  induction k with
  | zero => exact hw
  | succ k ih => exact ih.rnd
theorem fW_h (h8 : n ≤ 8) {j : Nat} (h6 : j ≠ 6) (hj : j < 8 ∨ 424 ≤ j) : ∀ k, fW n W k j = W j := by
  intro k
  induction k with
  | zero => rfl
  | succ k ih =>
    show rndW n (fW n W k) (nI (k + 1)) j = _
    rw [rnd_h h8 h6 hj, ih]
/-- how many are up falls by how many came down -/
theorem fF_up (h8 : n ≤ 8) : ∀ k, fF n W k + cntK (upS n (fW n W k)) 8 = cntK (upS n W) 8 := by
  intro k
  induction k with
  | zero => exact Nat.zero_add _
  | succ k ih =>
    show fF n W k + cntK (dnS n (fW n W k)) 8 + cntK (upS n (rndW n (fW n W k) (nI (k + 1)))) 8 = _
    rw [rnd_ups h8]
    have := cntK_sub (a := upS n (fW n W k)) (d := dnS n (fW n W k)) dn_up 8 (Nat.le_refl 8)
    omega
theorem fF_le (h8 : n ≤ 8) (k : Nat) : fF n W k ≤ 8 := by
  have h1 := fF_up (W := W) h8 k
  have h2 := cntK_le (upS n W) 8
  omega
theorem fF_le2 (h8 : n ≤ 8) (k : Nat) : fF n W k + cntK (dnS n (fW n W k)) 8 ≤ 8 := fF_le h8 (k + 1)
theorem fF_ge : ∀ k, (∀ j, j < k → stB n (fW n W j) (fun _ => 0) = false) → k ≤ fF n W k := by
  intro k
  induction k with
  | zero => intro _; exact Nat.zero_le _
  | succ k ih =>
    intro h
    have h1 := ih fun j hj => h j (by omega)
    have h2 := h k (by omega)
    rw [st_dn] at h2
    have h3 := cntK_pos dn_8 (of_decide_eq_false h2)
    show k + 1 ≤ fF n W k + cntK (dnS n (fW n W k)) 8
    omega
theorem fK_le : fK n W ≤ 8 := (fstK_p _ 8).1
theorem fK_lt {j : Nat} (h : j < fK n W) : stB n (fW n W j) (fun _ => 0) = false := (fstK_p _ 8).2.1 j h
theorem st_up0 (h : upS n W = 0) : stB n W (fun _ => 0) = true := by
  rw [st_dn]
  refine decide_eq_true (S8.ext dn_8 S8.zero fun j hj => ?_)
  rw [hs_0]
  cases e : hs (dnS n W) j
  · rfl
  · have := dn_up j hj e
    rw [h, hs_0] at this
    cases this
theorem fK_st (h8 : n ≤ 8) : stB n (falW n W) (fun _ => 0) = true := by
  rcases (fstK_p (fun k => stB n (fW n W k) (fun _ => 0)) 8).2.2 with h | h
  · exact h
  · unfold falW
    have e : fK n W = 8 := h
    rw [e]
    have h1 := fF_ge (n := n) (W := W) 8 fun j hj => fK_lt (by rw [e]; exact hj)
    have h2 := fF_up (W := W) h8 8
    have h3 := cntK_le (upS n W) 8
    exact st_up0 (cntK_0 (S8.set _) (by omega))
end
