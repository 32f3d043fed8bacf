/-! guard in the class: the table of what goes on, and the rows out of it -/
theorem hs_nt {d k : Nat} (hk : k < 32) : hs (nI d) k = d.testBit k := by
  show (BitVec.ofNat 32 d).getLsbD k = _
  rw [BitVec.getLsbD_ofNat, decide_eq_true hk, Bool.true_and]
theorem or_bit {d r : Nat} (hd : d < 16) (hr : r < 4) : nI d ||| f_X11_bit (nI r) = nI (d ||| 2 ^ r) := (by decide +kernel : ∀ d, d < 16 → ∀ r, r < 4 → nI d ||| f_X11_bit (nI r) = nI (d ||| 2 ^ r)) d hd r hr
theorem or_gt {d r : Nat} (hd : d < 16) (hr : r < 4) (h : d.testBit r = false) : d < d ||| 2 ^ r ∧ d ||| 2 ^ r < 16 := (by decide +kernel : ∀ d, d < 16 → ∀ r, r < 4 → d.testBit r = false → d < d ||| 2 ^ r ∧ d ||| 2 ^ r < 16) d hd r hr h
theorem wi_all {d m : Nat} (hd : d < 16) (hm : m ≤ 4) : f_X11_within (nI d) (f_X11_bit (nI m) - 1) = decide (d < 2 ^ m) := (by decide +kernel : ∀ m, m ≤ 4 → ∀ d, d < 16 → f_X11_within (nI d) (f_X11_bit (nI m) - 1) = decide (d < 2 ^ m)) m hm d hd
theorem eq_all {d m : Nat} (hd : d < 16) (hm : m ≤ 4) : decide (nI d = f_X11_bit (nI m) - 1) = decide (d = 2 ^ m - 1) := (by decide +kernel : ∀ m, m ≤ 4 → ∀ d, d < 16 → decide (nI d = f_X11_bit (nI m) - 1) = decide (d = 2 ^ m - 1)) m hm d hd
theorem tb_lt {d m j : Nat} (hd : d < 2 ^ m) (h : d.testBit j = true) : j < m := by
  refine Classical.byContradiction fun hc => ?_
  rw [Nat.testBit_lt_two_pow (Nat.lt_of_lt_of_le hd (Nat.pow_le_pow_right (by decide) (by omega)))] at h
  cases h
theorem i_m15 {a : Nat} : nI 15 - nI a + (-1 : Int32) = nI 15 - nI (a + 1) := Int32.toBitVec.inj (by
  show BitVec.ofNat 32 15 - BitVec.ofNat 32 a + 4294967295#32 = BitVec.ofNat 32 15 - BitVec.ofNat 32 (a + 1)
  bv_omega)
theorem bo_B (b : Bool) : vp_nar .boolean (mB b) = mB b := by cases b <;> rfl
theorem mB_0 (b : Bool) : decide (mB b = 0) = !b := by cases b <;> rfl
/-- the table, step by step from above -/
def tVal (S t : Nat → Bool) (m d : Nat) : Bool := decide (d < 2 ^ m) && ((decide (d = 2 ^ m - 1) || exK (fun r => !d.testBit r && t (d ||| 2 ^ r)) m) && S d)
def tabK (S : Nat → Bool) (m : Nat) : Nat → Nat → Bool
  | 0 => fun _ => false
  | k + 1 => fun d => bif decide (d = 15 - k) then tVal S (tabK S m k) m d else tabK S m k d
theorem tabK_s (S : Nat → Bool) (m k d : Nat) : tabK S m (k + 1) d = bif decide (d = 15 - k) then tVal S (tabK S m k) m d else tabK S m k d := rfl
theorem exK_cg {c d : Nat → Bool} : ∀ {k : Nat}, (∀ j, j < k → c j = d j) → exK c k = exK d k := by
  intro k
  induction k with
  | zero => intro _; rfl
  | succ k ih => intro h; rw [exK_s, exK_s, ih fun j hj => h j (by omega), h k (by omega)]
theorem fsK_cg {c d : Nat → Bool} : ∀ {k : Nat}, (∀ j, j < k → c j = d j) → fsK c k = fsK d k := by
  intro k
  induction k with
  | zero => intro _; rfl
  | succ k ih =>
    intro h
    show (bif exK c k then fsK c k else k) = bif exK d k then fsK d k else k
    rw [exK_cg fun j hj => h j (by omega), ih fun j hj => h j (by omega)]
theorem tab_st {S : Nat → Bool} {m k e : Nat} (he : 15 - k < e) (hk : k ≤ 15) : ∀ i, k + i ≤ 16 → tabK S m (k + i) e = tabK S m k e := by
  intro i
  induction i with
  | zero => intro _; rfl
  | succ i ih =>
    intro hi
    rw [show k + (i + 1) = k + i + 1 from rfl, tabK_s, decide_eq_false (by omega), cond_false, ih (by omega)]
theorem tab_T (S : Nat → Bool) {m : Nat} (hm : m ≤ 4) : tabT (tabK S m 16) S m := by
  intro d hd
  have h16 := p16 hm
  have e1 : tabK S m 16 d = tabK S m (15 - d + 1) d := by
    by_cases hd0 : d = 0
    · subst hd0; rfl
    · have := tab_st (S := S) (m := m) (k := 15 - d + 1) (e := d) (by omega) (by omega) d (by omega)
      rw [show 15 - d + 1 + d = 16 by omega] at this
      exact this
  have e2 : ∀ e, d < e → tabK S m 16 e = tabK S m (15 - d) e := fun e he => by
    have := tab_st (S := S) (m := m) (k := 15 - d) (e := e) (by omega) (by omega) (d + 1) (by omega)
    rw [show 15 - d + (d + 1) = 16 by omega] at this
    exact this
  rw [e1, tabK_s, decide_eq_true (show d = 15 - (15 - d) by omega), cond_true]
  unfold tVal
  rw [decide_eq_true hd, Bool.true_and, exK_cg (d := fun r => !d.testBit r && tabK S m 16 (d ||| 2 ^ r)) fun r hr => ?_]
  cases z : d.testBit r
  · rw [e2 _ (or_gt (by omega) (by omega) z).1]
  · rfl
section
variable {n : Nat} {M : mM} {W : Nat → Int32}
/-- the next row, by what lies in the table -/
theorem C_nextR {X : mM} {t : Nat → Bool} {m d : Nat} (hm : m ≤ 4) (hd : d < 16) (h13 : X 13 3 = nI m) (h16 : ∀ r, r < m → d.testBit r = false → X 16 (d ||| 2 ^ r) = mB (t (d ||| 2 ^ r))) : f_X4_nextRow (nI d) X = some (bif exK (fun r => !d.testBit r && t (d ||| 2 ^ r)) m then nI (fsK (fun r => !d.testBit r && t (d ||| 2 ^ r)) m) else -1) := by
  have st : ∀ k, k < 4 → (k < m → (!d.testBit k && t (d ||| 2 ^ k)) = false) → f_X4_nextRow_2 (nI d) (nI k) X = some (.inr (nI (k + 1))) := fun k hk hc => by
    unfold f_X4_nextRow_2
    rw [show decide ((4 : Int32) ≤ nI k) = false from i_lit (a := 4) (by decide) hk, cond_false, has_hs (by omega), hs_nt (by omega), h13, i_ge (by omega) (by omega), i_1, or_bit hd hk]
    cases z : d.testBit k
    · rw [cond_false]
      obtain ⟨-, g2⟩ := or_gt hd hk z
      by_cases hkm : k < m
      · have := hc hkm
        rw [z, Bool.not_false, Bool.true_and] at this
        rw [decide_eq_true hkm, Bool.not_true, cond_false, i_ge (by omega) (by omega), decide_eq_true g2, Bool.not_true, cond_false, gd_t (i_in (by omega) (by decide)), i_ix (by omega), h16 k hkm z, mB_0, this, Bool.not_false, cond_true]
      · rw [decide_eq_false hkm, Bool.not_false, cond_true]
    · rw [cond_true]
  unfold f_X4_nextRow f_X4_nextRow_l2
  cases c : exK (fun r => !d.testBit r && t (d ||| 2 ^ r)) m
  · rw [cond_false]
    refine wh_ne (fun k => nI k) 4 _ (by decide) rfl (fun k hk => st k hk fun hkm => ?_) rfl
    cases z : (!d.testBit k && t (d ||| 2 ^ k))
    · rfl
    · rw [exK_iff.mpr ⟨k, hkm, z⟩] at c; cases c
  · obtain ⟨a, b, e⟩ := fsK_p c
    rw [cond_true]
    generalize fsK (fun r => !d.testBit r && t (d ||| 2 ^ r)) m = f at a b e ⊢
    rw [Bool.and_eq_true] at a
    have z : d.testBit f = false := by
      cases z : d.testBit f
      · rfl
      · rw [z] at a; cases a.1
    refine wh_ne (fun k => nI k) f _ (by omega) rfl (fun k hk => st k (by omega) fun _ => e k hk) ?_
    obtain ⟨-, g2⟩ := or_gt hd (show f < 4 by omega) z
    show f_X4_nextRow_2 (nI d) (nI f) X = _
    unfold f_X4_nextRow_2
    rw [show decide ((4 : Int32) ≤ nI f) = false from i_lit (a := 4) (by decide) (by omega), cond_false, has_hs (by omega), hs_nt (by omega), z, cond_false, h13, i_ge (by omega) (by omega), decide_eq_true b, Bool.not_true, cond_false, or_bit hd (by omega), i_ge (by omega) (by omega), decide_eq_true g2, Bool.not_true, cond_false, gd_t (i_in (by omega) (by decide)), i_ix (by omega), h16 f b z, mB_0, a.2, Bool.not_true, cond_false]
/-- the table of the class -/
theorem C_goes {N : mM} (hw : WF n W) (ht : TS n W N 35) {m : Nat} {P O : Nat → Nat} (hm : m ≤ 4) (hA : Dst n m P O) (h13 : N 13 3 = nI m) (h14 : ∀ r, r < m → N 14 r = nI (P r) ∧ N 15 r = nI (O r)) : ∃ M1, f_X4_findGoesOn 35 47 N = some ((), M1) ∧ (∀ d, d < 16 → M1 16 d = mB (tabK (fun d => sAf n W P O (fun j => d.testBit j)) m 16 d)) ∧ ∀ z, z ≠ 16 → (z < 47 ∨ 58 < z) → M1 z = N z := by
  have h8 := hw.2.1
  generalize hS : (fun d : Nat => sAf n W P O (fun j => d.testBit j)) = S
  unfold f_X4_findGoesOn f_X4_findGoesOn_l12
  rw [gd_t T35, gd_t T47, h13, show (nI 16 - 1 : Int32) = nI 15 - nI 0 from rfl]
  refine wh_V (fun k (s : Int32 × mM) => s.1 = nI 15 - nI k ∧ (∀ d, 15 - k < d ∨ k = 16 → d < 16 → s.2 16 d = mB (tabK S m k d)) ∧ ∀ z, z ≠ 16 → (z < 47 ∨ 58 < z) → s.2 z = N z) () (fun M1 => (∀ d, d < 16 → M1 16 d = mB (tabK S m 16 d)) ∧ ∀ z, z ≠ 16 → (z < 47 ∨ 58 < z) → M1 z = N z) 16 _ _ ⟨rfl, fun d h1 h2 => absurd h1 (by omega), fun _ _ _ => rfl⟩ (fun k hk s hs' => ?_) (fun s hs' => ?_) (by decide)
  · obtain ⟨a, X⟩ := s
    obtain ⟨h1, h2, h3⟩ := hs'
    dsimp only at h1 h2 h3
    subst h1
    show ∃ s', f_X4_findGoesOn_12 35 47 (f_X11_bit (nI m) - 1) (nI 15 - nI k) X = some (.inr s') ∧ _
    obtain ⟨d, hd⟩ : ∃ d, d = 15 - k := ⟨_, rfl⟩
    have hd16 : d < 16 := by omega
    have ed : nI 15 - nI k = nI d := by rw [pk_sub (by omega), hd]
    have em : nI d + (-1 : Int32) = nI 15 - nI (k + 1) := by rw [← ed, i_m15]
    rw [ed]
    -- what is written
    have wr8 : ∀ Y : mM, (∀ z, (z < 47 ∨ 58 < z) → Y z = X z) → ∀ b, b = tabK S m (k + 1) d → ∃ s', f_X4_findGoesOn_38 35 47 (f_X11_bit (nI m) - 1) (nI d) (nI d) b Y = some (.inr s') ∧ s'.1 = nI 15 - nI (k + 1) ∧ (∀ d, 15 - (k + 1) < d ∨ k + 1 = 16 → d < 16 → s'.2 16 d = mB (tabK S m (k + 1) d)) ∧ ∀ z, z ≠ 16 → (z < 47 ∨ 58 < z) → s'.2 z = N z := fun Y hY b hb => by
      unfold f_X4_findGoesOn_38
      rw [gd_t (i_in hd16 (by decide)), wr_e, i_ix (by omega), bo_B, em]
      refine ⟨_, rfl, rfl, fun e e1 e2 => ?_, fun z z1 z2 => ?_⟩
      · show mst Y 16 d (mB b) 16 e = _
        by_cases hed : e = d
        · rw [hed, mst_oo, hb]
        · rw [mst_nk hed, hY 16 (by decide), tabK_s, decide_eq_false (by omega), cond_false]
          exact h2 e (by omega) e2
      · show mst Y 16 d (mB b) z = _
        rw [mst_no z1, hY z z2]
        exact h3 z z1 z2
    have et : tabK S m (k + 1) d = tVal S (tabK S m k) m d := by rw [tabK_s, decide_eq_true hd, cond_true]
    have no : tVal S (tabK S m k) m d = false → ∃ s', f_X4_findGoesOn_37 35 47 (f_X11_bit (nI m) - 1) (nI d) (nI d) X = some (.inr s') ∧ s'.1 = nI 15 - nI (k + 1) ∧ (∀ d, 15 - (k + 1) < d ∨ k + 1 = 16 → d < 16 → s'.2 16 d = mB (tabK S m (k + 1) d)) ∧ ∀ z, z ≠ 16 → (z < 47 ∨ 58 < z) → s'.2 z = N z := fun hv => by
      unfold f_X4_findGoesOn_37
      exact wr8 X (fun _ _ => rfl) false (by rw [et, hv])
    have ask : d < 2 ^ m → (decide (d = 2 ^ m - 1) || exK (fun r => !d.testBit r && tabK S m k (d ||| 2 ^ r)) m) = true → ∃ s', f_X4_findGoesOn_29 35 47 (f_X11_bit (nI m) - 1) (nI d) (nI d) X = some (.inr s') ∧ s'.1 = nI 15 - nI (k + 1) ∧ (∀ d, 15 - (k + 1) < d ∨ k + 1 = 16 → d < 16 → s'.2 16 d = mB (tabK S m (k + 1) d)) ∧ ∀ z, z ≠ 16 → (z < 47 ∨ 58 < z) → s'.2 z = N z := fun hlt hv => by
      obtain ⟨M1, e1, f1⟩ := C_stA (N := X) hw (ht.in216 h8 fun z z1 z2 => h3 z (by omega) (by omega)) hm hA (fun r hr => by rw [h3 14 (by decide) (by decide), h3 15 (by decide) (by decide)]; exact h14 r hr) (s := nI d) (fun j hj hh => by rw [hs_nt (by omega)] at hh; exact tb_lt hlt hh)
      have eS : sAf n W P O (hs (nI d)) = S d := by
        rw [← hS]
        exact sAf_cg fun j hj => hs_nt (by omega)
      have eT : tabK S m (k + 1) d = S d := by rw [et]; unfold tVal; rw [decide_eq_true hlt, hv, Bool.true_and, Bool.true_and]
      unfold f_X4_findGoesOn_29
      rw [e1, b2_s, eS]
      cases z : S d
      · rw [cond_false]
        unfold f_X4_findGoesOn_37
        exact wr8 M1 f1 false (by rw [eT, z])
      · rw [cond_true]
        exact wr8 M1 f1 true (by rw [eT, z])
    unfold f_X4_findGoesOn_12
    rw [decide_eq_false (nI_pos (show d < 2 ^ 31 by omega)), cond_false, wi_all hd16 hm, eq_all hd16 hm]
    by_cases hlt : d < 2 ^ m
    · rw [decide_eq_true hlt, cond_true]
      by_cases hall : d = 2 ^ m - 1
      · rw [decide_eq_true hall, cond_true]
        exact ask hlt (by rw [decide_eq_true hall]; rfl)
      · have hnx := C_nextR (X := X) (t := tabK S m k) hm hd16 (by rw [h3 13 (by decide) (by decide)]; exact h13) fun r hr hz => h2 _ (by have := or_gt hd16 (show r < 4 by omega) hz; omega) (or_gt hd16 (by omega) hz).2
        rw [decide_eq_false hall, cond_false, hnx, b1_s]
        cases c : exK (fun r => !d.testBit r && tabK S m k (d ||| 2 ^ r)) m
        · rw [cond_false, show decide ((-1 : Int32) = -1) = true from rfl, cond_true]
          exact no (by unfold tVal; rw [c, decide_eq_false hall, Bool.or_false, Bool.false_and, Bool.and_false])
        · obtain ⟨-, b, -⟩ := fsK_p c
          rw [cond_true, decide_eq_false fun z => nI_pos (show fsK (fun r => !d.testBit r && tabK S m k (d ||| 2 ^ r)) m < 2 ^ 31 by omega) (by rw [z]; decide), cond_false]
          exact ask hlt (by rw [c, Bool.or_true])
    · rw [decide_eq_false hlt, cond_false]
      exact no (by unfold tVal; rw [decide_eq_false hlt, Bool.false_and])
  · obtain ⟨a, X⟩ := s
    obtain ⟨h1, h2, h3⟩ := hs'
    dsimp only at h1 h2 h3
    subst h1
    show ∃ M', f_X4_findGoesOn_12 35 47 (f_X11_bit (nI m) - 1) (nI 15 - nI 16) X = some (.inl ((), M')) ∧ _
    unfold f_X4_findGoesOn_12
    rw [show decide (nI 15 - nI 16 < 0) = true from rfl, cond_true]
    exact ⟨_, rfl, fun d hd => h2 d (Or.inr rfl) hd, h3⟩
/-- the rows, one behind another -/
theorem C_rowOf {N : mM} (hw : WF n W) (ht : TS n W N 35) {m : Nat} {P O : Nat → Nat} (h0 : 0 < m) (hm : m ≤ 4) (hA : Dst n m P O) (h13 : N 13 3 = nI m) (h14 : ∀ r, r < m → N 14 r = nI (P r) ∧ N 15 r = nI (O r)) {T S : Nat → Bool} (hS : S = fun d => sAf n W P O (fun j => d.testBit j)) (hT : T = tabK S m 16) {k : Nat} (hk : k < m) : ∃ M1, f_X4_rowOf (nI k) 35 47 N = some (bif T 0 then nI (gN T m (gK T m k)) else -1, M1) ∧ ∀ z, z ≠ 16 → (z < 47 ∨ 58 < z) → M1 z = N z := by
  obtain ⟨M1, e1, e2, e3⟩ := C_goes hw ht hm hA h13 h14
  rw [← hS, ← hT] at e2
  have hTT : tabT T S m := by rw [hT]; exact tab_T S hm
  unfold f_X4_rowOf
  rw [gd_t T35, gd_t T47, decide_eq_false (nI_pos (by omega)), cond_false, h13, i_lt (by omega) (by omega), decide_eq_true hk, cond_true, e1, b2_s, dn, show ix (0 : Int32) = 0 from rfl, e2 0 (by decide), mB_0, Bool.not_not]
  cases c : T 0
  · rw [cond_false, cond_false]
    exact ⟨M1, rfl, e3⟩
  · rw [cond_true, cond_true]
    refine ⟨M1, ?_, e3⟩
    unfold f_X4_rowOf_l25
    refine wh_ne (fun j => (nI (gK T m j), (match j with | 0 => (-1 : Int32) | j + 1 => nI (gN T m (gK T m j))), nI j)) (k + 1) _ (by omega) rfl (fun j hj => ?_) ?_
    · obtain ⟨a1, a2, a3, a4⟩ := gK_p h0 hm hTT c j (by omega)
      obtain ⟨b1, b2, b3, b4⟩ := a4 (by omega)
      have l2 := p16 hm
      show f_X4_rowOf_25 35 47 (nI k) (nI (gK T m j)) _ (nI j) M1 = some (.inr (nI (gK T m j ||| 2 ^ gN T m (gK T m j)), nI (gN T m (gK T m j)), nI (j + 1)))
      have hex : exK (fun r => !(gK T m j).testBit r && T (gK T m j ||| 2 ^ r)) m = true := exK_iff.mpr ⟨gN T m (gK T m j), b1, by rw [b2]; exact b3⟩
      unfold f_X4_rowOf_25
      rw [i_lt (by omega) (by omega), decide_eq_false (by omega), cond_false, C_nextR (t := T) hm (by omega) (by rw [e3 13 (by decide) (by decide)]; exact h13) fun r hr hz => e2 _ (or_gt (by omega) (by omega) hz).2, b1_s, hex, cond_true, i_1]
      show some (Sum.inr (nI (gK T m j) ||| f_X11_bit (nI (gN T m (gK T m j))), nI (gN T m (gK T m j)), nI (j + 1))) = _
      rw [or_bit (by omega) (by omega)]
    · show f_X4_rowOf_25 35 47 (nI k) _ (nI (gN T m (gK T m k))) (nI (k + 1)) M1 = _
      unfold f_X4_rowOf_25
      rw [i_lt (by omega) (by omega), decide_eq_true (by omega), cond_true]
end
