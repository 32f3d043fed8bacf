/-! the log as it is asked; led; counts; odds -/
theorem fm_p : ∀ d, d < 60 → f_J9_floorMod_7cf53 (nI d) 60 = some (nI d) := by decide +kernel
theorem fm_m : ∀ d, d < 61 → f_J9_floorMod_7cf53 (-(nI d)) 60 = some (nI ((60 - d) % 60)) := by decide +kernel
theorem i_fmp {a d : Nat} : nI (a + 1 + d) - 1 - nI a = nI d := by
  rw [show nI (a + 1 + d) = nI d + nI a + 1 by rw [nI_add, i_1]; exact congrArg nI (by omega), Int32.add_sub_cancel, Int32.add_sub_cancel]
theorem i_fmm {x a : Nat} (h : x < a + 1) (ha : a < 61) : nI x - 1 - nI a = -(nI (a + 1 - x)) := Int32.toBitVec.inj (by
  show BitVec.ofNat 32 x - 1#32 - BitVec.ofNat 32 a = -(BitVec.ofNat 32 (a + 1 - x))
  bv_omega)
theorem i_fms {c j : Nat} (hc : c ≤ 60) (hj : j < 60) : nI c - 1 - nI (j + 1) = nI c - 1 - nI j + (-1 : Int32) := Int32.toBitVec.inj (by
  show BitVec.ofNat 32 c - 1#32 - BitVec.ofNat 32 (j + 1) = BitVec.ofNat 32 c - 1#32 - BitVec.ofNat 32 j + 4294967295#32
  bv_omega)
theorem fm_60 {x a : Nat} (hx : x < 60) (ha : a < 60) : f_J9_floorMod_7cf53 (nI x - 1 - nI a) 60 = some (nI ((x + 59 - a) % 60)) := by
  by_cases h : x < a + 1
  · rw [i_fmm h (by omega), fm_m _ (by omega)]
    exact congrArg (fun z => some (nI z)) (by omega)
  · obtain ⟨d, rfl⟩ : ∃ d, x = a + 1 + d := ⟨x - (a + 1), by omega⟩
    rw [i_fmp, fm_p _ (by omega)]
    exact congrArg (fun z => some (nI z)) (by omega)
section
variable {W : Nat → Int32} {M : mM} {g : Nat}
theorem C_at (hg : mLgB g = true) (h : LR W M g) : ∃ c, c ≤ 60 ∧ W 6 = nI c ∧ (∀ a, a < c → ∀ w, w < 6 → f_X2_at g (nI a) (nI w) M = some (W (64 + 6 * a + w))) ∧ (∀ p w, isP c p = false → f_X2_at g p w M = some (-1)) ∧ M g 2 = nI c := by
  obtain ⟨x, c, hx, hc, h1, h2, h3, h4⟩ := h
  refine ⟨c, hc, h3, fun a ha w hw => ?_, fun p w hp => ?_, h2⟩
  · unfold f_X2_at
    have e1 : (nI ((x + 59 - a) % 60)) * (6 : Int32) + nI w = nI ((x + 59 - a) % 60 * 6 + w) := by rw [show (6 : Int32) = nI 6 from rfl, pk_mul, nI_add]
    have e2 : (x + 59 - a) % 60 < 60 := Nat.mod_lt _ (by decide)
    rw [gd_t hg, decide_eq_false (nI_pos (show a < 2 ^ 31 by omega)), cond_false, h2, i_lt (by omega) (by omega), decide_eq_true ha, cond_true, h1, fm_60 hx (by omega), b1_s, e1, decide_eq_false (nI_pos (by omega)), cond_false, i_le (by decide) (by omega), decide_eq_false (by omega), cond_false, gd_t (i_in (by omega) (by decide)), i_ix (by omega), h4 a ha w hw]
  · unfold f_X2_at
    rw [gd_t hg, h2]
    unfold isP at hp
    cases e1 : decide (p < 0)
    · rw [e1] at hp
      have e2 : decide (p < nI c) = false := by
        rw [decide_eq_false_iff_not, Int32.not_lt]
        cases e3 : decide (nI c ≤ p)
        · rw [e3] at hp; cases hp
        · exact of_decide_eq_true e3
      rw [e2, cond_false, cond_false]
    · rw [cond_true]
theorem isP_ge {c a : Nat} (h : c ≤ a) (ha : a < 2 ^ 31) : isP c (nI a) = false := by
  unfold isP
  rw [i_le (by omega) ha, decide_eq_true h, Bool.not_true, Bool.and_false]
theorem m_ofLog {N : mM} {a w : Nat} (ha : a < 60) (hw : w < 6) : f_X12_ofLog (nI a) (nI w) N = some (N 216 (64 + 6 * a + w)) := by
  unfold f_X12_ofLog
  have e1 : (64 : Int32) + (6 : Int32) * nI a + nI w = nI (64 + 6 * a + w) := by rw [show (6 : Int32) = nI 6 from rfl, show (64 : Int32) = nI 64 from rfl, pk_mul, nI_add, nI_add]
  rw [e1, gd_t (i_in (by omega) (by decide)), i_ix (by omega)]
theorem first_or (P : Nat → Bool) : ∀ n, (∃ j, j < n ∧ P j = true ∧ ∀ i, i < j → P i = false) ∨ ∀ i, i < n → P i = false := by
  intro n
  induction n with
  | zero => exact Or.inr fun i hi => absurd hi (Nat.not_lt_zero i)
  | succ n ih =>
    rcases ih with ⟨j, h1, h2, h3⟩ | h
    · exact Or.inl ⟨j, by omega, h2, h3⟩
    · cases e : P n
      · refine Or.inr fun i hi => ?_
        by_cases hn : i = n
        · rw [hn]; exact e
        · exact h i (by omega)
      · exact Or.inl ⟨n, by omega, e, h⟩
theorem sm_1st (f : Nat → Int32) : ∀ n, sm f (n + 1) = f 0 + sm (fun i => f (i + 1)) n := by
  intro n
  induction n with
  | zero =>
    show 0 + f 0 = f 0 + 0
    rw [Int32.zero_add, Int32.add_zero]
  | succ n ih => rw [sm_s, ih, sm_s, Int32.add_assoc]
theorem sm_rev (f : Nat → Int32) : ∀ n, sm f n = sm (fun i => f (n - 1 - i)) n := by
  intro n
  induction n generalizing f with
  | zero => rfl
  | succ n ih =>
    rw [sm_1st, ih fun i => f (i + 1), sm_s, Int32.add_comm]
    rw [show n + 1 - 1 - n = 0 by omega]
    congr 1
    exact sm_congr fun i hi => congrArg f (by omega)
end
section
variable {n : Nat} {M : mM}
theorem L44 : mLgB 44 = true := by decide
theorem in_05 (x : Int32) : inB 0 5 x = (!decide (x < 0) && decide (x < (6 : Int32))) := by
  unfold inB
  have : decide ((5 : Int32) < x) = !decide (x < (6 : Int32)) := by
    rw [← dn, decide_eq_decide, Int32.lt_iff_toInt_lt, Int32.lt_iff_toInt_lt, show (5 : Int32).toInt = 5 from rfl, show (6 : Int32).toInt = 6 from rfl]
    omega
  rw [this, Bool.not_not]
theorem inB_n {c : Nat} {x : Int32} (hc : c < 2 ^ 31) : inB 0 (nI c - 1) x = isP c x := by
  unfold inB isP
  have e : decide (nI c - 1 < x) = decide (nI c ≤ x) := by
    rw [decide_eq_decide, Int32.lt_iff_toInt_lt, Int32.le_iff_toInt_le, i_toInt hc]
    have : (nI c - 1).toInt = (c : Int) - 1 := by
      cases c with
      | zero => rfl
      | succ c =>
        rw [← i_1, Int32.add_sub_cancel, i_toInt (by omega)]
        omega
    rw [this]
    omega
  rw [e]
/-- the log -/
theorem Op_log (h : Rl n M) {i w : Int32} : OpT M (f_X11_log i w) (f_X12_log i w) tThr := by
  obtain ⟨c, hc, h6, hat, hno, -⟩ := C_at L44 h.tr.lr
  have hC : f_X11_log i w M = bif inB 0 5 w then b1 (f_X2_at 44 i w M) (fun v3 => some (.inl v3, M)) else some (.inr 3, M) := by
    unfold f_X11_log f_X11_log_5
    rw [in_05]
    cases decide (w < 0)
    · cases decide (w < (6 : Int32))
      · rw [cond_false, cond_false, Bool.not_false, Bool.and_false, cond_false]
      · rw [cond_false, cond_true, Bool.not_false, Bool.and_true, cond_true]
    · rw [cond_true, Bool.not_true, Bool.false_and, cond_false]
  have hM : ∀ Mo, f_X12_log i w Mo = f_X12_log_12 i w (!inB 0 5 w) (mst Mo 215 0 0) := fun Mo => by
    unfold f_X12_log
    rw [wr_e, in_B]
    cases inB 0 5 w
    · rw [cond_false, Bool.not_false]
    · rw [cond_true, Bool.not_true]
  cases hI : inB 0 5 w
  · refine OpT.q h (r := .inr 3) (M1 := M) ?_ CQ.rf (fun Mo e hr => ⟨0, mst (mst Mo 215 0 0) 215 0 1, ?_, rq_thr.1, rq_thr.2.1, rq_thr.2.2, by decide⟩)
    · rw [hC, hI, cond_false]
    · rw [hM, hI]
      unfold f_X12_log_12
      rw [m_tIf, b2_s, Bool.not_false, cond_true, cond_true]
  · obtain ⟨j, hj, rfl⟩ : ∃ j, j ≤ 5 ∧ w = nI j := by
      unfold inB at hI
      rw [Bool.and_eq_true, ← dn, ← dn] at hI
      exact nI_of2 (M := 5) (n := 5) rfl (of_decide_eq_true hI.1) (Int32.not_lt.mp (of_decide_eq_true hI.2))
    have hm : ∀ Mo : mM, Mo 216 = M 216 → f_X12_log i (nI j) Mo = (bif isP c i then b1 (f_X12_ofLog i (nI j) (mst Mo 215 0 0)) (fun v5 => some (v5, mst Mo 215 0 0)) else some ((-1 : Int32), mst Mo 215 0 0)) := fun Mo e => by
      rw [hM, hI]
      unfold f_X12_log_12
      have e6 : mst Mo 215 0 0 216 (ix (6 : Int32)) = nI c := by rw [mst_no (by decide), e]; exact h6
      rw [m_tIf, b2_s, Bool.not_true, cond_false, cond_false, e6, in_B, inB_n (by omega)]
    cases hP : isP c i
    · refine OpT.q h (r := .inl (-1)) (M1 := M) ?_ CQ.rf (fun Mo e hr => ⟨-1, mst Mo 215 0 0, ?_, rq_00, mst_no (by decide), rfl, mst_oo _ _ _ _⟩)
      · rw [hC, hI, cond_true, hno i (nI j) hP, b1_s]
      · rw [hm Mo e, hP, cond_false]
    · obtain ⟨a, ha, rfl⟩ : ∃ a, a < c ∧ i = nI a := by
        unfold isP at hP
        rw [Bool.and_eq_true, ← dn, ← dn] at hP
        obtain ⟨k, h1, h2⟩ := nI_of2 (M := 59) (n := 59) rfl (of_decide_eq_true hP.1) (by
          have := of_decide_eq_true hP.2
          rw [Int32.le_iff_toInt_le, i_toInt (by omega)] at this
          rw [Int32.le_iff_toInt_le, show (59 : Int32).toInt = 59 from rfl]
          omega)
        subst h2
        refine ⟨k, ?_, rfl⟩
        have := of_decide_eq_true hP.2
        rw [Int32.le_iff_toInt_le, i_toInt (by omega), i_toInt (by omega)] at this
        omega
      refine OpT.q h (r := .inl (M 216 (64 + 6 * a + j))) (M1 := M) ?_ CQ.rf (fun Mo e hr => ⟨M 216 (64 + 6 * a + j), mst Mo 215 0 0, ?_, rq_00, mst_no (by decide), rfl, mst_oo _ _ _ _⟩)
      · rw [hC, hI, cond_true, hat a ha j (by omega), b1_s]
      · rw [hm Mo e, hP, cond_true, m_ofLog (by omega) (by omega), b1_s, mst_no (by decide), e]
/-- who fell last, and how often -/
def ledB (W : Nat → Int32) (p c a : Nat) : Bool := decide (a < c) && decide (W (64 + 6 * a + 2) = nI p)
def ledL (W : Nat → Int32) (p c : Nat) : Nat → Int32
  | 0 => -1
  | j + 1 => bif ledB W p c (c - 1 - j) then W (64 + 6 * (c - 1 - j)) else ledL W p c j
theorem ledL_s (W : Nat → Int32) (p c j : Nat) : ledL W p c (j + 1) = bif ledB W p c (c - 1 - j) then W (64 + 6 * (c - 1 - j)) else ledL W p c j := rfl
theorem Op_led (h : Rl n M) {p : Int32} {d : Bool} : OpT M (f_X11_led p d) (f_X12_led p d) tTwo := by
  have h8 := h.h8
  obtain ⟨c, hc, h6, hat, hno, -⟩ := C_at L44 h.tr.lr
  cases hP : isP n p
  · refine OpT.q h (r := .inr 2) (M1 := M) ?_ CQ.rf (fun Mo e hr => ⟨0, mst (mst Mo 215 0 0) 215 0 1, ?_, rq_thr.1, rq_thr.2.1, rq_thr.2.2, by decide⟩)
    · unfold f_X11_led
      rw [C_mustP h, hP]
      rfl
    · unfold f_X12_led
      rw [wr_e, b1_a (m_nb h e), hP, m_tIf]
      rfl
  · obtain ⟨k, hk, rfl⟩ := isP_of h8 hP
    have hne : decide (¬ (-1 : Int32) = nI k) = true := decide_eq_true fun z => nI_pos (show k < 2 ^ 31 by omega) (by rw [← z]; decide)
    -- the class
    have c1 : f_X2_rowsOf 44 (nI k) M = some (sm (fun a => b01 (ledB (M 216) k c a)) c) := by
      unfold f_X2_rowsOf f_X2_rowsOf_l4
      rw [gd_t L44]
      have e60 : sm (fun a => b01 (ledB (M 216) k c a)) c = sm (fun a => b01 (ledB (M 216) k c a)) 60 := by
        obtain ⟨y, hy⟩ : ∃ y, 60 = c + y := ⟨60 - c, by omega⟩
        rw [hy, sm_add, sm_0 (f := fun z => b01 (ledB (M 216) k c (c + z))) fun j _ => by unfold ledB; rw [decide_eq_false (show ¬ c + j < c by omega)]; rfl, Int32.add_zero]
      rw [e60]
      refine wh_ne (fun a => (sm (fun a => b01 (ledB (M 216) k c a)) a, nI a)) 60 _ (by decide) rfl (fun a ha => ?_) ?_
      · show f_X2_rowsOf_4 44 (nI k) _ (nI a) M = _
        unfold f_X2_rowsOf_4
        rw [show (60 : Int32) = nI 60 from rfl, i_le (by decide) (by omega), decide_eq_false (by omega), cond_false, i_1, sm_s]
        generalize sm (fun a => b01 (ledB (M 216) k c a)) a = z
        unfold ledB
        by_cases hac : a < c
        · rw [show (2 : Int32) = nI 2 from rfl, hat a hac 2 (by decide), b1_s, dn, decide_eq_true hac, Bool.true_and]
          cases decide (M 216 (64 + 6 * a + 2) = nI k)
          · show _ = some (Sum.inr (z + 0, nI (a + 1)))
            rw [Int32.add_zero]
            rfl
          · rfl
        · rw [hno _ _ (isP_ge (by omega) (by omega)), b1_s, hne, decide_eq_false hac, Bool.false_and]
          show _ = some (Sum.inr (z + 0, nI (a + 1)))
          rw [Int32.add_zero]
          rfl
      · rfl
    have c2 : f_X2_latestDay 44 (nI k) M = some (ledL (M 216) k c c) := by
      have low : ∀ m, m ≤ c → (∀ i, c - m ≤ i → ledB (M 216) k c i = false) → ledL (M 216) k c m = -1 := by
        intro m
        induction m with
        | zero => intro _ _; rfl
        | succ m ih =>
          intro hm hz
          rw [ledL_s, hz _ (by omega), cond_false]
          exact ih (by omega) fun i hi => hz i (by omega)
      have hi0 : ∀ m, m < c → (∀ i, i < c - 1 - m → ledB (M 216) k c i = false) → ledB (M 216) k c (c - 1 - m) = true → ledL (M 216) k c c = M 216 (64 + 6 * (c - 1 - m)) := by
        intro m hm hz ht
        have : ∀ q, m + 1 ≤ q → q ≤ c → ledL (M 216) k c q = M 216 (64 + 6 * (c - 1 - m)) := by
          intro q
          induction q with
          | zero => intro h1 _; omega
          | succ q ih =>
            intro h1 h2
            rw [ledL_s]
            by_cases hq : q = m
            · subst hq; rw [ht, cond_true]
            · rw [hz (c - 1 - q) (by omega), cond_false]
              exact ih (by omega) (by omega)
        exact this c (by omega) (Nat.le_refl c)
      unfold f_X2_latestDay f_X2_latestDay_l2
      rw [gd_t L44]
      have stp : ∀ a, a < 60 → ledB (M 216) k c a = false → f_X2_latestDay_2 44 (nI k) (nI a) M = some (.inr (nI (a + 1))) := fun a ha hf => by
        unfold f_X2_latestDay_2
        rw [show (60 : Int32) = nI 60 from rfl, i_le (by decide) (by omega), decide_eq_false (by omega), cond_false, i_1]
        unfold ledB at hf
        by_cases hac : a < c
        · rw [decide_eq_true hac, Bool.true_and] at hf
          rw [show (2 : Int32) = nI 2 from rfl, hat a hac 2 (by decide), b1_s, dn, hf]
          rfl
        · rw [hno _ _ (isP_ge (by omega) (by omega)), b1_s, hne]
          rfl
      rcases first_or (ledB (M 216) k c) 60 with ⟨j, hj, ht, hb⟩ | hf
      · have hjc : j < c := by
          unfold ledB at ht
          rw [Bool.and_eq_true] at ht
          exact of_decide_eq_true ht.1
        rw [hi0 (c - 1 - j) (by omega) (fun i hi => hb i (by omega)) (by rw [show c - 1 - (c - 1 - j) = j by omega]; exact ht), show c - 1 - (c - 1 - j) = j by omega]
        refine wh_ne (fun a => nI a) j _ (by omega) rfl (fun a ha => stp a (by omega) (hb a ha)) ?_
        show f_X2_latestDay_2 44 (nI k) (nI j) M = _
        unfold f_X2_latestDay_2
        unfold ledB at ht
        rw [decide_eq_true hjc, Bool.true_and] at ht
        rw [show (60 : Int32) = nI 60 from rfl, i_le (by decide) (by omega), decide_eq_false (by omega), cond_false, show (2 : Int32) = nI 2 from rfl, hat j hjc 2 (by decide), b1_s, dn, ht, Bool.not_true, cond_false, show (0 : Int32) = nI 0 from rfl, hat j hjc 0 (by decide), b1_s, Nat.add_zero]
      · rw [low c (Nat.le_refl c) fun i _ => by
          by_cases hi : i < 60
          · exact hf i hi
          · unfold ledB; rw [decide_eq_false (show ¬ i < c by omega), Bool.false_and]]
        refine wh_ne (fun a => nI a) 60 _ (by decide) rfl (fun a ha => stp a ha (hf a ha)) ?_
        rfl
    -- the reference
    have m1 : ∀ Mo : mM, Mo 216 = M 216 → f_X12_led (nI k) d Mo = some (bif d then ledL (M 216) k c c else sm (fun a => b01 (ledB (M 216) k c a)) c, mst Mo 215 0 0) := fun Mo e => by
      have e' : mst Mo 215 0 0 216 = M 216 := by rw [mst_no (by decide), e]
      unfold f_X12_led
      rw [wr_e, b1_a (m_nb h e), hP, m_tIf, b2_s, Bool.not_true, cond_false, cond_false, e', show ix (6 : Int32) = 6 from rfl, h6, sm_rev]
      unfold f_X12_led_l23
      refine wh_ne (fun j => (sm (fun i => b01 (ledB (M 216) k c (c - 1 - i))) j, ledL (M 216) k c j, nI c - 1 - nI j)) c _ (by omega) ?_ (fun j hj => ?_) ?_
      · show _ = ((0 : Int32), (-1 : Int32), nI c - 1 - 0)
        rw [Int32.sub_zero]
      · show f_X12_led_23 (nI k) d _ _ (nI c - 1 - nI j) _ = _
        have ej : nI c - 1 - nI j = nI (c - 1 - j) := by
          obtain ⟨q, hq⟩ : ∃ q, c = j + 1 + q := ⟨c - (j + 1), by omega⟩
          rw [hq, i_fmp]
          exact congrArg nI (by omega)
        have ej2 : nI c - 1 - nI (j + 1) = nI (c - 1 - j) + (-1 : Int32) := by
          rw [← ej, i_fms hc (by omega)]
        show f_X12_led_23 (nI k) d (sm (fun i => b01 (ledB (M 216) k c (c - 1 - i))) j) (ledL (M 216) k c j) (nI c - 1 - nI j) (mst Mo 215 0 0) = some (.inr (sm (fun i => b01 (ledB (M 216) k c (c - 1 - i))) (j + 1), ledL (M 216) k c (j + 1), nI c - 1 - nI (j + 1)))
        unfold f_X12_led_23
        rw [ej2, ej, decide_eq_false (nI_pos (by omega)), cond_false, show (2 : Int32) = nI 2 from rfl, m_ofLog (by omega) (by decide), b1_s, b1_a (show f_X12_ofLog (nI (c - 1 - j)) (0 : Int32) (mst Mo 215 0 0) = some (mst Mo 215 0 0 216 (64 + 6 * (c - 1 - j) + 0)) from m_ofLog (w := 0) (by omega) (by decide)), e', sm_s, ledL_s]
        generalize sm (fun i => b01 (ledB (M 216) k c (c - 1 - i))) j = z
        generalize ledL (M 216) k c j = y
        unfold ledB
        rw [decide_eq_true (show c - 1 - j < c by omega), Bool.true_and, Nat.add_zero]
        cases decide (M 216 (64 + 6 * (c - 1 - j) + 2) = nI k)
        · show some (Sum.inr (z, y, _)) = some (Sum.inr (z + 0, y, _))
          rw [Int32.add_zero]
        · rfl
      · show f_X12_led_23 (nI k) d (sm (fun i => b01 (ledB (M 216) k c (c - 1 - i))) c) (ledL (M 216) k c c) (nI c - 1 - nI c) (mst Mo 215 0 0) = _
        have ec : nI c - 1 - nI c = -1 := by
          rw [i_fmm (by omega) (by omega), show c + 1 - c = 1 by omega]
          rfl
        unfold f_X12_led_23
        rw [ec, show decide ((-1 : Int32) < 0) = true from rfl, cond_true]
        cases d
        · rw [cond_false, cond_false]
        · rw [cond_true, cond_true]
    refine OpT.q h (r := .inl (bif d then ledL (M 216) k c c else sm (fun a => b01 (ledB (M 216) k c a)) c)) (M1 := M) ?_ CQ.rf (fun Mo e hr => ⟨_, mst Mo 215 0 0, m1 Mo e, rq_00, mst_no (by decide), rfl, mst_oo _ _ _ _⟩)
    unfold f_X11_led
    rw [C_mustP h, hP, cond_true, tb_l]
    cases d
    · rw [cond_false, c1, b1_s, cond_false]
    · rw [cond_true, c2, b1_s, cond_true]
end
