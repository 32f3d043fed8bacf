/-! loads as numbers: nothing is lost, nothing comes to be -/
def sN (f : Nat → Nat) : Nat → Nat
  | 0 => 0
  | k + 1 => sN f k + f k
theorem sN_s (f : Nat → Nat) (k : Nat) : sN f (k + 1) = sN f k + f k := rfl
theorem sN_mem {f : Nat → Nat} {p : Nat} : ∀ {k : Nat}, p < k → f p ≤ sN f k := by
  intro k
  induction k with
  | zero => intro h; omega
  | succ k ih =>
    intro h
    rw [sN_s]
    by_cases hp : p = k
    · rw [hp]; omega
    · have := ih (by omega)
      omega
theorem sN_le {f g : Nat → Nat} : ∀ {k : Nat}, (∀ p, p < k → f p ≤ g p) → sN f k ≤ sN g k := by
  intro k
  induction k with
  | zero => intro _; exact Nat.le_refl _
  | succ k ih =>
    intro h
    have h1 := ih fun p hp => h p (by omega)
    have h2 := h k (by omega)
    rw [sN_s, sN_s]
    omega
theorem sN_add (f g : Nat → Nat) : ∀ k, sN (fun p => f p + g p) k = sN f k + sN g k := by
  intro k
  induction k with
  | zero => rfl
  | succ k ih => rw [sN_s, sN_s, sN_s, ih]; omega
theorem sN_one {k x : Nat} : ∀ {m : Nat}, k < m → sN (fun p => if p = k then x else 0) m = x := by
  have z : ∀ m, m ≤ k → sN (fun p => if p = k then x else 0) m = 0 := by
    intro m
    induction m with
    | zero => intro _; rfl
    | succ m ih => intro h; rw [sN_s, ih (by omega), if_neg (by omega)]
  intro m
  induction m with
  | zero => intro h; omega
  | succ m ih =>
    intro h
    rw [sN_s]
    by_cases hm : k = m
    · rw [z m (by omega), if_pos hm.symm, Nat.zero_add]
    · rw [ih (by omega), if_neg (by omega)]; rfl
/-- what is shared out, as numbers -/
def inN (l : Nat) (by' : Int32) (p : Nat) : Nat := bif hs by' p then l / cntK by' 8 + (if cntK by' p < l % cntK by' 8 then 1 else 0) else 0
def nS (l : Nat) (by' : Int32) (b : Nat → Nat) (p : Nat) : Nat := b p + inN l by' p
theorem inN_sum (l : Nat) (by' : Int32) : ∀ m, sN (inN l by') m = cntK by' m * (l / cntK by' 8) + min (cntK by' m) (l % cntK by' 8) := by
  unfold inN
  generalize cntK by' 8 = c
  intro m
  induction m with
  | zero =>
    show 0 = 0 * _ + min 0 _
    rw [Nat.zero_mul, Nat.zero_min]
  | succ m ih =>
    rw [sN_s, ih, cntK_s]
    cases hs by' m
    · rw [cond_false, cond_false, Nat.add_zero, Nat.add_zero]
    · rw [cond_true, cond_true, Nat.add_mul, Nat.one_mul]
      by_cases h : cntK by' m < l % c
      · rw [if_pos h, Nat.min_eq_left (by omega), Nat.min_eq_left (by omega)]; omega
      · rw [if_neg h, Nat.min_eq_right (by omega), Nat.min_eq_right (by omega)]; omega
theorem inN_le (l : Nat) (by' : Int32) : sN (inN l by') 8 ≤ l := by
  rw [inN_sum]
  generalize cntK by' 8 = c
  by_cases h : c = 0
  · rw [h, Nat.zero_mul, Nat.zero_min]; omega
  · have h1 : l % c < c := Nat.mod_lt _ (by omega)
    have h2 := Nat.div_add_mod l c
    rw [Nat.min_eq_right (by omega)]
    omega
theorem inN_mono {l l' : Nat} (h : l ≤ l') (by' : Int32) (p : Nat) : inN l by' p ≤ inN l' by' p := by
  unfold inN
  cases hs by' p
  · exact Nat.le_refl _
  · show _ + _ ≤ _ + _
    generalize cntK by' 8 = c
    generalize cntK by' p = i
    have h1 : l / c ≤ l' / c := Nat.div_le_div_right h
    by_cases h2 : l / c < l' / c
    · by_cases h3 : i < l % c
      · rw [if_pos h3]; omega
      · rw [if_neg h3]; omega
    · have e : l / c = l' / c := by omega
      have d1 := Nat.div_add_mod l c
      have d2 := Nat.div_add_mod l' c
      rw [e] at d1 ⊢
      have : l % c ≤ l' % c := by omega
      by_cases h3 : i < l % c
      · rw [if_pos h3, if_pos (by omega)]; omega
      · rw [if_neg h3]; omega
theorem i_sc {o c : Nat} (ho : o < 2 ^ 30) (hc : c ≤ 8) : decide (nI o - nI c ≤ 0) = decide (o ≤ c) := by
  rw [decide_eq_decide, Int32.le_iff_toInt_le, pk_sub_toInt ho (by omega), show (0 : Int32).toInt = 0 from rfl]
  omega
theorem i_sm {o c : Nat} : nI o - nI c + (-1 : Int32) = nI o - nI (c + 1) := Int32.toBitVec.inj (by
  show BitVec.ofNat 32 o - BitVec.ofNat 32 c + 4294967295#32 = BitVec.ofNat 32 o - BitVec.ofNat 32 (c + 1)
  bv_omega)
theorem shK_cl {by' : Int32} {e o : Nat} {b : Nat → Int32} (ho : o < 2 ^ 30) : ∀ k, k ≤ 8 → (shK by' (nI e) (nI o) b k).1 = nI o - nI (cntK by' k) ∧ ∀ p, (shK by' (nI e) (nI o) b k).2 p = bif decide (p < k) && hs by' p then b p + nI (e + (if cntK by' p < o then 1 else 0)) else b p := by
  intro k
  induction k with
  | zero =>
    intro _
    refine ⟨?_, fun p => by rw [decide_eq_false (Nat.not_lt_zero p)]; rfl⟩
    show nI o = nI o - nI 0
    rw [show nI 0 = (0 : Int32) from rfl, Int32.sub_zero]
  | succ k ih =>
    intro hk
    obtain ⟨h1, h2⟩ := ih (by omega)
    have hc := cntK_le by' k
    rw [shK_s, cntK_s]
    cases hb : hs by' k
    · rw [cond_false, cond_false]
      refine ⟨h1, fun p => ?_⟩
      rw [h2]
      by_cases hp : p = k
      · rw [hp, hb, Bool.and_false, Bool.and_false]
      · by_cases hlt : p < k
        · rw [decide_eq_true hlt, decide_eq_true (by omega)]
        · rw [decide_eq_false hlt, decide_eq_false (by omega)]
    · rw [cond_true, cond_true]
      refine ⟨by show _ + (-1 : Int32) = _; rw [h1, i_sm], fun p => ?_⟩
      show upd _ k _ p = _
      by_cases hp : p = k
      · subst hp
        rw [upd_at, h2, decide_eq_false (Nat.lt_irrefl p), Bool.false_and, cond_false, h1, i_sc ho (by omega), decide_eq_true (show p < p + 1 by omega), hb, Bool.and_true, cond_true]
        by_cases hle : o ≤ cntK by' p
        · rw [decide_eq_true hle, cond_true, if_neg (by omega), Nat.add_zero]
        · rw [decide_eq_false hle, cond_false, if_pos (by omega), i_1]
      · rw [upd_ne hp, h2]
        by_cases hlt : p < k
        · rw [decide_eq_true hlt, decide_eq_true (by omega)]
        · rw [decide_eq_false hlt, decide_eq_false (by omega)]
theorem shS_n {by' : Int32} {l : Nat} {b : Nat → Int32} {β : Nat → Nat} (hS : S8 by') (hl : l < 2 ^ 20) (h : ∀ p, p < 8 → b p = nI (β p)) {p : Nat} (hp : p < 8) : shS (nI l) by' b p = nI (nS l by' β p) := by
  have h8 := cntK_le by' 8
  unfold shS nS inN
  rw [bc_cnt hS]
  by_cases hc : cntK by' 8 = 0
  · rw [hc, show decide (nI 0 = 0) = true from rfl, cond_true]
    have : hs by' p = false := by
      cases e : hs by' p
      · rfl
      · have := cntK_lt (d := by') (k := p) (m := 8) hp e
        omega
    rw [this, cond_false, Nat.add_zero, h p hp]
  · rw [decide_eq_false (nI_ne0 (by omega) (by omega)), cond_false]
    have ed : nI l / nI (cntK by' 8) = nI (l / cntK by' 8) := pk_div (by omega) (by omega) (by omega)
    have er : rmd (nI l) (nI (cntK by' 8)) = nI (l % cntK by' 8) := pk_rem (by omega) (by omega) (by omega)
    have hm : l % cntK by' 8 < cntK by' 8 := Nat.mod_lt _ (by omega)
    rw [ed, er, (shK_cl (by omega) 8 (Nat.le_refl 8)).2 p, decide_eq_true hp, Bool.true_and]
    cases hs by' p
    · rw [cond_false, cond_false, Nat.add_zero, h p hp]
    · rw [cond_true, cond_true, h p hp, nI_add]
/-- one is carried: what is left to carry does not grow -/
def Iv (T : Nat) (w : Nat → Nat) (d : Nat → Bool) (β : Nat → Nat) : Prop := sN (fun p => bif d p then 0 else w p + β p) 8 ≤ T ∧ ∀ p, p < 8 → d p = true → w p + β p ≤ T
theorem Iv.le {T : Nat} {w : Nat → Nat} {d : Nat → Bool} {β : Nat → Nat} (h : Iv T w d β) {p : Nat} (hp : p < 8) : w p + β p ≤ T := by
  cases e : d p
  · have : (bif d p then 0 else w p + β p) ≤ sN (fun p => bif d p then 0 else w p + β p) 8 := sN_mem (f := fun p => bif d p then 0 else w p + β p) hp
    rw [e, cond_false] at this
    exact Nat.le_trans this h.1
  · exact h.2 p hp e
theorem Iv.cg {T : Nat} {w : Nat → Nat} {d d' : Nat → Bool} {β : Nat → Nat} (h : Iv T w d β) (e : ∀ p, p < 8 → d' p = d p) : Iv T w d' β := ⟨Nat.le_trans (sN_le fun p hp => by rw [e p hp]; exact Nat.le_refl _) h.1, fun p hp hd => h.2 p hp (by rw [← e p hp]; exact hd)⟩
theorem Iv.st {T : Nat} {w : Nat → Nat} {d : Nat → Bool} {β : Nat → Nat} (h : Iv T w d β) {k : Nat} (hk : k < 8) (hd : d k = false) {by' : Int32} (hm : ∀ q, q < 8 → hs by' q = true → d q = false ∧ q ≠ k) : Iv T w (fun p => d p || decide (p = k)) (nS (w k + β k) by' β) := by
  have hin := inN_le (w k + β k) by'
  generalize hl : w k + β k = l at hin ⊢
  have n0 : ∀ p, p < 8 → hs by' p = false → inN l by' p = 0 := fun p _ e => by unfold inN; rw [e, cond_false]
  constructor
  · have s1 : sN (fun p => (bif d p || decide (p = k) then 0 else w p + nS l by' β p) + (if p = k then l else 0)) 8 ≤ sN (fun p => (bif d p then 0 else w p + β p) + inN l by' p) 8 := sN_le fun p hp => by
      by_cases hpk : p = k
      · subst hpk
        rw [decide_eq_true rfl, Bool.or_true, cond_true, if_pos rfl, hd, cond_false]
        omega
      · rw [decide_eq_false hpk, Bool.or_false, if_neg hpk]
        cases d p
        · rw [cond_false, cond_false]
          unfold nS
          omega
        · rw [cond_true, cond_true]
          omega
    rw [sN_add, sN_add, sN_one hk] at s1
    have := h.1
    show sN (fun p => bif d p || decide (p = k) then 0 else w p + nS l by' β p) 8 ≤ T
    omega
  · intro p hp hd'
    have hnm : hs by' p = false := by
      cases e : hs by' p
      · rfl
      · obtain ⟨m1, m2⟩ := hm p hp e
        change (d p || decide (p = k)) = true at hd'
        rw [m1, decide_eq_false m2] at hd'
        cases hd'
    unfold nS
    rw [n0 p hp hnm, Nat.add_zero]
    exact h.le hp
section
variable {n : Nat} {W : Nat → Int32}
def rgN (n : Nat) (W : Nat → Int32) (p : Nat) : Nat := if p < n then (pv W p 5).toInt.toNat else 0
def wN (n : Nat) (W : Nat → Int32) (p : Nat) : Nat := if p < n then (pv W p 0).toInt.toNat else 0
/-- what of a world its loads rest on -/
def SF (n : Nat) (W : Nat → Int32) : Prop := n ≤ 8 ∧ (∀ p, p < n → (pv W p 5 = -1 ∨ ∃ r, r ≤ 4 ∧ pv W p 5 = nI r) ∧ S8 (rBy n W p) ∧ ∀ q, q < 8 → hs (rBy n W p) q = true → q < n ∧ pv W q 5 + 1 = pv W p 5) ∧ ∀ p, p < n → ∃ x, x ≤ 999 ∧ pv W p 0 = nI x
theorem WF.sf (hw : WF n W) : SF n W := ⟨hw.2.1, fun p hp => ⟨hw.rg hp, S8.andl (hw.2.2.1 p hp).2.2.1, fun q hq e => by
  unfold rBy at e
  rw [hs_and, Bool.and_eq_true] at e
  obtain ⟨a, b, -⟩ := (hw.2.2.1 p hp).2.2.2.2 q hq e.1
  exact ⟨a, b⟩⟩, fun p hp => by
  obtain ⟨x, -, hx, e⟩ := (hw.2.2.2.1 p hp).1
  exact ⟨x, by omega, e⟩⟩
theorem rg_of (h : SF n W) {p : Nat} (hp : p < n) : (rgN n W p = 0 ∧ (pv W p 5 = -1 ∨ pv W p 5 = 0)) ∨ (1 ≤ rgN n W p ∧ rgN n W p ≤ 4 ∧ pv W p 5 = nI (rgN n W p)) := by
  unfold rgN
  rw [if_pos hp]
  rcases (h.2.1 p hp).1 with e | ⟨r, hr, e⟩
  · rw [e]; exact Or.inl ⟨rfl, Or.inl rfl⟩
  · rw [e, i_toInt (by omega)]
    by_cases h0 : r = 0
    · subst h0; exact Or.inl ⟨rfl, Or.inr rfl⟩
    · exact Or.inr ⟨by omega, by omega, by congr 1⟩
theorem act_rg (h : SF n W) {r p : Nat} (h1 : 1 ≤ r) (h4 : r ≤ 4) : rAct n W r p = decide (rgN n W p = r) := by
  unfold rAct
  by_cases hp : p < n
  · rw [decide_eq_true hp, Bool.true_and]
    rcases rg_of h hp with ⟨e, e1⟩ | ⟨e1, e2, e3⟩
    · rw [decide_eq_false (show ¬ rgN n W p = r by omega)]
      refine decide_eq_false fun z => ?_
      rcases e1 with e1 | e1
      · exact nI_pos (show r < 2 ^ 31 by omega) (by rw [← z, e1]; decide)
      · rw [e1] at z
        exact nI_ne0 (show 0 < r by omega) (by omega) z.symm
    · rw [e3, i_eq (by omega) (by omega)]
  · rw [decide_eq_false hp, Bool.false_and]
    unfold rgN
    rw [if_neg hp]
    exact (decide_eq_false (by omega)).symm
theorem by_rg (h : SF n W) {p q : Nat} (hp : p < n) (hq : q < 8) (e : hs (rBy n W p) q = true) (h1 : 1 ≤ rgN n W p) : rgN n W q + 1 = rgN n W p := by
  obtain ⟨a, b⟩ := (h.2.1 p hp).2.2 q hq e
  rcases rg_of h hp with ⟨e1, -⟩ | ⟨e1, e2, e3⟩
  · omega
  · rw [e3] at b
    rcases rg_of h a with ⟨f1, f2⟩ | ⟨f1, f2, f3⟩
    · rcases f2 with f2 | f2
      · rw [f2, show (-1 : Int32) + 1 = nI 0 from rfl] at b
        have := (nI_eq (by decide) (by omega)).mp b
        omega
      · rw [f2, show (0 : Int32) + 1 = nI 1 from rfl] at b
        have := (nI_eq (by decide) (by omega)).mp b
        omega
    · rw [f3, i_1] at b
      have := (nI_eq (by omega) (by omega)).mp b
      omega
/-- the loads, as numbers -/
def nP (n : Nat) (W : Nat → Int32) (r : Nat) (β : Nat → Nat) : Nat → Nat → Nat
  | 0 => β
  | k + 1 => bif decide (rgN n W k = r) then nS (wN n W k + nP n W r β k k) (rBy n W k) (nP n W r β k) else nP n W r β k
theorem nP_s (r : Nat) (β : Nat → Nat) (k : Nat) : nP n W r β (k + 1) = bif decide (rgN n W k = r) then nS (wN n W k + nP n W r β k k) (rBy n W k) (nP n W r β k) else nP n W r β k := rfl
def nR (n : Nat) (W : Nat → Int32) : Nat → Nat → Nat
  | 0 => fun _ => 0
  | j + 1 => nP n W (4 - j) (nR n W j) 8
theorem nR_s (j : Nat) : nR n W (j + 1) = nP n W (4 - j) (nR n W j) 8 := rfl
def nLd (n : Nat) (W : Nat → Int32) : Nat → Nat := nR n W 4
def wT (n : Nat) (W : Nat → Int32) : Nat := sN (wN n W) 8
def dB (n : Nat) (W : Nat → Int32) (r k p : Nat) : Bool := decide (r < rgN n W p) || (decide (rgN n W p = r) && decide (p < k))
theorem w_n (h : SF n W) {p : Nat} (hp : p < n) : pv W p 0 = nI (wN n W p) ∧ wN n W p ≤ 999 := by
  obtain ⟨x, hx, e⟩ := h.2.2 p hp
  unfold wN
  rw [if_pos hp, e, i_toInt (by omega)]
  exact ⟨by congr 1, by omega⟩
theorem wT_le (h : SF n W) : wT n W ≤ 7992 := by
  have : ∀ p, wN n W p ≤ 999 := fun p => by
    by_cases hp : p < n
    · exact (w_n h hp).2
    · unfold wN; rw [if_neg hp]; omega
  exact Nat.le_trans (sN_le (g := fun _ => 999) fun p _ => this p) (by decide)
theorem nP_ok (h : SF n W) {r : Nat} (h1 : 1 ≤ r) (h4 : r ≤ 4) {b : Nat → Int32} {β : Nat → Nat} (hb : ∀ p, p < 8 → b p = nI (β p)) (hI : Iv (wT n W) (wN n W) (dB n W r 0) β) : ∀ k, k ≤ 8 → (∀ p, p < 8 → carP (rAct n W r) (fun p => pv W p 0) (rBy n W) b k p = nI (nP n W r β k p)) ∧ Iv (wT n W) (wN n W) (dB n W r k) (nP n W r β k) := by
  have hT := wT_le h
  intro k
  induction k with
  | zero => intro _; exact ⟨hb, hI⟩
  | succ k ih =>
    intro hk
    obtain ⟨i1, i2⟩ := ih (by omega)
    rw [carP_s, nP_s, act_rg h h1 h4]
    by_cases hr : rgN n W k = r
    · have hkn : k < n := by
        refine Classical.byContradiction fun hc => ?_
        unfold rgN at hr
        rw [if_neg hc] at hr
        omega
      have hd : dB n W r k k = false := by
        unfold dB
        rw [decide_eq_false (show ¬ r < rgN n W k by omega), decide_eq_false (Nat.lt_irrefl k), Bool.and_false]
        rfl
      have hm : ∀ q, q < 8 → hs (rBy n W k) q = true → dB n W r k q = false ∧ q ≠ k := fun q hq e => by
        have := by_rg h hkn hq e (by omega)
        refine ⟨?_, fun z => by subst z; omega⟩
        unfold dB
        rw [decide_eq_false (show ¬ r < rgN n W q by omega), decide_eq_false (show ¬ rgN n W q = r by omega)]
        rfl
      have hle := i2.le (show k < 8 by omega)
      rw [decide_eq_true hr, cond_true, cond_true]
      refine ⟨fun p hp => ?_, (i2.st (show k < 8 by omega) hd hm).cg fun p hp => ?_⟩
      · show shS (pv W k 0 + _) _ _ p = _
        rw [(w_n h hkn).1, i1 k (by omega), nI_add]
        exact shS_n (h.2.1 k hkn).2.1 (by omega) i1 hp
      · show dB n W r (k + 1) p = (dB n W r k p || decide (p = k))
        unfold dB
        by_cases hpk : p = k
        · subst hpk
          rw [decide_eq_true hr, decide_eq_true (show p < p + 1 by omega), decide_eq_true rfl, Bool.or_true, Bool.true_and, Bool.or_true]
        · rw [decide_eq_false hpk, Bool.or_false]
          by_cases hlt : p < k
          · rw [decide_eq_true hlt, decide_eq_true (show p < k + 1 by omega)]
          · rw [decide_eq_false hlt, decide_eq_false (show ¬ p < k + 1 by omega)]
    · rw [decide_eq_false hr, cond_false, cond_false]
      refine ⟨i1, i2.cg fun p hp => ?_⟩
      unfold dB
      by_cases hpk : p = k
      · subst hpk
        rw [decide_eq_false hr, Bool.false_and, Bool.false_and]
      · by_cases hlt : p < k
        · rw [decide_eq_true hlt, decide_eq_true (show p < k + 1 by omega)]
        · rw [decide_eq_false hlt, decide_eq_false (show ¬ p < k + 1 by omega)]
theorem nR_ok (h : SF n W) {b : Nat → Int32} (hb : ∀ p, p < 8 → b p = 0) : ∀ j, j ≤ 4 → (∀ p, p < 8 → carR (rAct n W) (fun p => pv W p 0) (rBy n W) b j p = nI (nR n W j p)) ∧ Iv (wT n W) (wN n W) (dB n W (4 - j) 0) (nR n W j) := by
  have r4 : ∀ p, rgN n W p ≤ 4 := fun p => by
    by_cases hp : p < n
    · rcases rg_of h hp with ⟨e, -⟩ | ⟨-, e, -⟩ <;> omega
    · unfold rgN; rw [if_neg hp]; omega
  intro j
  induction j with
  | zero =>
    intro _
    refine ⟨fun p hp => hb p hp, ?_, fun p hp hd => ?_⟩
    · refine sN_le fun p hp => ?_
      cases dB n W (4 - 0) 0 p
      · show wN n W p + 0 ≤ _
        omega
      · exact Nat.zero_le _
    · exfalso
      unfold dB at hd
      rw [decide_eq_false (show ¬ 4 - 0 < rgN n W p by have := r4 p; omega), decide_eq_false (Nat.not_lt_zero p), Bool.and_false] at hd
      cases hd
  | succ j ih =>
    intro hj
    obtain ⟨i1, i2⟩ := ih (by omega)
    obtain ⟨g1, g2⟩ := nP_ok h (r := 4 - j) (by omega) (by omega) i1 i2 8 (Nat.le_refl 8)
    rw [carR_s, nR_s]
    refine ⟨g1, g2.cg fun p hp => ?_⟩
    unfold dB
    rw [decide_eq_true hp, Bool.and_true, decide_eq_false (Nat.not_lt_zero p), Bool.and_false, Bool.or_false]
    by_cases h1 : 4 - j < rgN n W p
    · rw [decide_eq_true h1, decide_eq_true (show 4 - (j + 1) < rgN n W p by omega)]; rfl
    · by_cases h2 : rgN n W p = 4 - j
      · rw [decide_eq_true h2, decide_eq_true (show 4 - (j + 1) < rgN n W p by omega), Bool.or_true]
      · rw [decide_eq_false h1, decide_eq_false h2, decide_eq_false (show ¬ 4 - (j + 1) < rgN n W p by omega)]; rfl
/-- what one bears is a number, and with his weight at most all weights together -/
theorem ld_n (h : SF n W) {b : Nat → Int32} {p : Nat} (hp : p < 8) : rCar n W b p = nI (nLd n W p) ∧ wN n W p + nLd n W p ≤ wT n W := by
  obtain ⟨g1, g2⟩ := nR_ok h (b := zr8 b) (fun p hp => if_pos hp) 4 (Nat.le_refl 4)
  exact ⟨g1 p hp, g2.le hp⟩
/-- heavier ones bear no less down -/
theorem nP_mono {W' : Nat → Int32} {r : Nat} {β β' : Nat → Nat} (er : ∀ p, p < 8 → rgN n W' p = rgN n W p) (eb : ∀ p, p < 8 → rgN n W p = r → rBy n W' p = rBy n W p) (ew : ∀ p, wN n W p ≤ wN n W' p) (hb : ∀ p, β p ≤ β' p) : ∀ k, k ≤ 8 → ∀ p, nP n W r β k p ≤ nP n W' r β' k p := by
  intro k
  induction k with
  | zero => intro _; exact hb
  | succ k ih =>
    intro hk p
    have ih := ih (by omega)
    rw [nP_s, nP_s, er k (by omega)]
    by_cases hr : rgN n W k = r
    · rw [decide_eq_true hr, cond_true, cond_true, eb k (by omega) hr]
      unfold nS
      have h1 := ih p
      have h2 := ih k
      have h3 := ew k
      have h4 := inN_mono (l := wN n W k + nP n W r β k k) (l' := wN n W' k + nP n W' r β' k k) (by omega) (rBy n W k) p
      omega
    · rw [decide_eq_false hr, cond_false, cond_false]
      exact ih p
theorem nLd_mono {W' : Nat → Int32} (er : ∀ p, p < 8 → rgN n W' p = rgN n W p) (eb : ∀ p, p < 8 → 1 ≤ rgN n W p → rBy n W' p = rBy n W p) (ew : ∀ p, wN n W p ≤ wN n W' p) (p : Nat) : nLd n W p ≤ nLd n W' p := by
  have : ∀ j, j ≤ 4 → ∀ p, nR n W j p ≤ nR n W' j p := by
    intro j
    induction j with
    | zero => intro _ p; exact Nat.le_refl _
    | succ j ih =>
      intro hj p
      rw [nR_s, nR_s]
      exact nP_mono er (fun p hp e => eb p hp (by omega)) ew (ih (by omega)) 8 (Nat.le_refl 8) p
  exact this 4 (Nat.le_refl 4) p
end
