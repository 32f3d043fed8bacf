/-! ahead, trial, soon, span -/
section
variable {n : Nat} {M : mM}
/-- the class looks m hours ahead, in next -/
theorem C_next (h : Rl n M) {m : Nat} (hm : m ≤ 60) {dr : Bool} : ∃ v M1, f_X9_passHours 47 17 (nI m) dr (cpT 47 35 M) = some (v, M1) ∧ TS n (hrsW n (M 216) dr m) M1 47 ∧ ∀ z, z ≠ 22 → (z < 47 ∨ 58 < z) → M1 z = M z := by
  obtain ⟨e1, t1, f1⟩ := C_to47 h
  obtain ⟨M1, a1, a2, a3⟩ := C_hours h.wf (dr := dr) hm t1 (h.lw.rf fun j hj => f1 _ (by omega)) L17 T47 (by decide)
  exact ⟨_, M1, a1, a2, fun z z1 z2 => by rw [a3 z (by omega) (by omega), f1 z (by omega)]⟩
/-- the reference looks m hours ahead, and is brought back -/
theorem M_next (h : Rl n M) {N Mc : mM} (hL : LW (M 216) Mc 17) {m : Nat} (hm : m ≤ 60) {calm : Bool} (e : N 216 = M 216) : ∃ v M1, f_X12_goesOn (nI m) calm (rs N 219 (va_cpy (M 216) (N 219) 0 0 424)) = some (v, M1) ∧ M1 216 = hrsW n (M 216) (!calm) m ∧ f_X12_bringsBack M1 = some ((), rs M1 216 (M 216)) ∧ (∀ z, z ≠ 215 → z ≠ 216 → z ≠ 219 → z ≠ 221 → z ≠ 222 → z ≠ 225 → z ≠ 226 → M1 z = N z) ∧ ∀ k, k ≠ 10 → k ≠ 11 → M1 215 k = N 215 k := by
  have h8 := h.h8
  obtain ⟨M1, a1, a2, a3, a4⟩ := M_goes h.wf (calm := calm) hm (M := rs N 219 (va_cpy (M 216) (N 219) 0 0 424)) (by rw [rs_ne (by decide), e]) hL
  refine ⟨_, M1, a1, a2, m_back (m_219 (a3 219 (by decide) (by decide) (by decide) (by decide) (by decide) (by decide))) (fun k hk => by rw [a2]; exact hrs_g h8 (by omega) (by omega) (by omega) (by omega) (by omega) m), fun z z1 z2 z3 z4 z5 z6 z7 => by rw [a3 z z1 z2 z4 z5 z6 z7, rs_ne z3], fun k k1 k2 => by rw [a4 k k1 k2, rs_ne (by decide)]⟩
theorem rq_nx {Mo N M1 : mM} (hN : N = mst Mo 215 0 0) (e : Mo 216 = M 216) (f : ∀ z, z ≠ 215 → z ≠ 216 → z ≠ 219 → z ≠ 221 → z ≠ 222 → z ≠ 225 → z ≠ 226 → M1 z = N z) (f5 : ∀ k, k ≠ 10 → k ≠ 11 → M1 215 k = N 215 k) : RQ Mo (rs M1 216 (M 216)) ∧ rs M1 216 (M 216) 231 = Mo 231 ∧ rs M1 216 (M 216) 215 0 = 0 := by
  subst hN
  refine ⟨RQ.of (fun z z1 z2 z3 z4 z5 => ?_) (fun k hk => ?_), ?_, ?_⟩
  · by_cases h : z = 216
    · subst h; rw [rs_at, e]
    · rw [rs_ne h, f z z1 h z2 z3 z4 (by omega) (by omega), mst_no z1]
  · rw [rs_ne (by decide), f5 k (by omega) (by omega), mst_nk (by omega)]
  · rw [rs_ne (by decide), f 231 (by decide) (by decide) (by decide) (by decide) (by decide) (by decide) (by decide), mst_no (by decide)]
  · rw [rs_ne (by decide), f5 0 (by decide) (by decide), mst_oo]
def tAh (E : Nat) : Int32 := bif Nat.beq E 2 then 1 else bif Nat.beq E 0 then 2 else 0
theorem Op_ahead (h : Rl n M) {p x : Int32} : OpT M (f_X11_ahead p x) (f_X12_ahead p x) tAh := by
  have h8 := h.h8
  cases hP : isP n p
  · refine OpT.q h (r := .inr 2) (M1 := M) ?_ CQ.rf (fun Mo e hr => ⟨0, mst (mst Mo 215 0 0) 215 0 1, ?_, rq_thr.1, rq_thr.2.1, rq_thr.2.2, by decide⟩)
    · unfold f_X11_ahead
      rw [C_mustP h, hP, cond_false, tb_r]
    · unfold f_X12_ahead
      rw [wr_e, b1_a (m_nb h e), hP, m_tIf, b2_s, Bool.not_false, cond_true, cond_true]
  · obtain ⟨k, hk, rfl⟩ := isP_of h8 hP
    cases hI : inB 0 60 x
    · refine OpT.q h (r := .inr 0) (M1 := M) ?_ CQ.rf (fun Mo e hr => ⟨0, mst (mst Mo 215 0 0) 215 0 2, ?_, rq_thr.1, rq_thr.2.1, rq_thr.2.2, by decide⟩)
      · unfold f_X11_ahead
        rw [C_mustP h, hP, cond_true, tb_l, C_look, hI, cond_false, tb_r]
      · unfold f_X12_ahead
        rw [wr_e, b1_a (m_nb h e), hP, m_tIf, b2_s, Bool.not_true, cond_false, cond_false, M_look, hI, m_tIf, b2_s, Bool.not_false, cond_true, cond_true]
    · obtain ⟨m, hm, rfl⟩ := inB_60 (Or.inl rfl) hI
      obtain ⟨v, M1, a1, a2, a3⟩ := C_next h hm (dr := false)
      refine OpT.q h (r := .inl (pv (hrsW n (M 216) false m) k 2)) (M1 := M1) ?_ (CQ.nx fun z z1 z2 => a3 z z1 (by omega)) (fun Mo e hr => ?_)
      · unfold f_X11_ahead
        rw [C_mustP h, hP, cond_true, tb_l, C_look, hI, cond_true, tb_l, (C_to47 h).1, b2_s, a1, b2_s, gd_t (i_in (by omega) (by decide)), i_ix (by omega), show M1 50 k = pv (hrsW n (M 216) false m) k 2 from (a2.1.pp hk).2.2.1]
      · obtain ⟨v2, M2, c1, c2, c3, c4, c5⟩ := M_next h h.lw hm (calm := true) (N := mst Mo 215 0 0) (by rw [mst_no (by decide), e])
        obtain ⟨d1, d2, d3⟩ := rq_nx rfl e c4 c5
        refine ⟨_, _, ?_, d1, d2, rfl, d3⟩
        unfold f_X12_ahead
        rw [wr_e, b1_a (m_nb h e), hP, m_tIf, b2_s, Bool.not_true, cond_false, cond_false, M_look, hI, m_tIf, b2_s, Bool.not_true, cond_false, cond_false, m_kp2 (W := M 216) (by rw [mst_no (by decide), e]), b2_s, c1, b2_s, show f_X12_of (nI k) (2 : Int32) M2 = some (pv (M2 216) k 2) from m_of (c := 2) (by omega) (by decide), b1_s, c3, b2_s, c2]
        rfl
theorem Op_trial (h : Rl n M) {x : Int32} {as : Bool} : OpT M (f_X11_trial x as) (f_X12_trial x as) tOne := by
  have h8 := h.h8
  cases hI : inB 0 60 x
  · refine OpT.q h (r := .inr 0) (M1 := M) ?_ CQ.rf (fun Mo e hr => ⟨0, mst (mst Mo 215 0 0) 215 0 1, ?_, rq_thr.1, rq_thr.2.1, rq_thr.2.2, by decide⟩)
    · unfold f_X11_trial
      rw [C_look, hI, cond_false, tb_r]
    · unfold f_X12_trial
      rw [wr_e, M_look, hI, m_tIf, b2_s, Bool.not_false, cond_true, cond_true]
  · obtain ⟨m, hm, rfl⟩ := inB_60 (Or.inl rfl) hI
    obtain ⟨v, M1, a1, a2, a3⟩ := C_next h hm (dr := true)
    refine OpT.q h (r := .inl (bif as then slS n (hrsW n (M 216) true m) else upS n (hrsW n (M 216) true m))) (M1 := M1) ?_ (CQ.nx fun z z1 z2 => a3 z z1 (by omega)) (fun Mo e hr => ?_)
    · unfold f_X11_trial
      rw [C_look, hI, cond_true, tb_l, (C_to47 h).1, b2_s, a1, b2_s, show M1 47 2 = slS n (hrsW n (M 216) true m) from a2.1.2.2.1, show M1 47 1 = upS n (hrsW n (M 216) true m) from a2.1.2.1]
      cases as <;> rfl
    · obtain ⟨v2, M2, c1, c2, c3, c4, c5⟩ := M_next h h.lw hm (calm := false) (N := mst Mo 215 0 0) (by rw [mst_no (by decide), e])
      obtain ⟨d1, d2, d3⟩ := rq_nx rfl e c4 c5
      have hn2 : M2 216 0 = nI n := by rw [c2]; exact (h.wf.hrs h.lw m).1
      refine ⟨_, _, ?_, d1, d2, rfl, d3⟩
      unfold f_X12_trial f_X12_trial_25
      rw [wr_e, M_look, hI, m_tIf, b2_s, Bool.not_true, cond_false, cond_false, m_kp2 (W := M 216) (by rw [mst_no (by decide), e]), b2_s, c1, b2_s, m_sls hn2 h8, b1_s, m_ups hn2 h8, b1_s, c3, b2_s, c2]
      cases as <;> rfl
/-- soon -/
def soC (n : Nat) (W : Nat → Int32) (k : Nat) : Bool := !decide (W 5 ≤ bc (upS n (hrsW n W false k)))
def soK (n : Nat) (W : Nat → Int32) : Nat := fstK (soC n W) 61
def soV (n : Nat) (W : Nat → Int32) : Int32 := bif decide (soK n W = 61) then -1 else nI (soK n W)
theorem C_soon (h : Rl n M) : ∃ M1, f_X11_soon M = some (soV n (M 216), M1) ∧ ∀ z, z ≠ 22 → (z < 47 ∨ 58 < z) → M1 z = M z := by
  have h8 := h.h8
  obtain ⟨e1, t1, f1⟩ := C_to47 h
  obtain ⟨p1, p2, p3⟩ := fstK_p (soC n (M 216)) 61
  unfold f_X11_soon f_X11_soon_l7
  rw [e1, b2_s]
  refine wh_V (fun k (q : Int32 × mM) => q.1 = nI k ∧ TS n (hrsW n (M 216) false k) q.2 47 ∧ ∀ z, z ≠ 22 → (z < 47 ∨ 58 < z) → q.2 z = M z) _ _ (soK n (M 216)) 100000 _ ⟨rfl, t1, fun z z1 z2 => f1 z z2⟩ (fun k hk q hq => ?_) (fun q hq => ?_) (by have : soK n (M 216) ≤ 61 := p1; omega)
  · obtain ⟨q1, M'⟩ := q
    obtain ⟨rfl, g2, g3⟩ := hq
    dsimp only at g2 g3
    have hk61 : k < 61 := by have : soK n (M 216) ≤ 61 := p1; omega
    have hc := p2 k hk
    have hL : LW (hrsW n (M 216) false k) M' 17 := (h.lw.hrs h8 k).rf fun j hj => g3 _ (by omega) (by omega)
    obtain ⟨M1, a1, a2, a3⟩ := C_hours (h.wf.hrs h.lw k) (m := 1) (dr := false) (by decide) g2 hL L17 T47 (by decide)
    refine ⟨(nI (k + 1), M1), ?_, rfl, a2, fun z z1 z2 => by dsimp only; rw [a3 z (by omega) (by omega), g3 z z1 z2]⟩
    show f_X11_soon_7 (nI k) M' = _
    unfold f_X11_soon_7
    have e60 : decide ((60 : Int32) < nI k) = false := by
      rw [show (60 : Int32) = nI 60 from rfl, i_lt (by decide) (by omega)]
      exact decide_eq_false (by omega)
    have e5 : M' 47 5 = (M 216) 5 := by rw [show M' 47 5 = hrsW n (M 216) false k 5 from g2.1.2.2.2.2.2.1]; exact hrs_g h8 (by decide) (by decide) (by decide) (by decide) (by decide) k
    have ec : decide ((M' 47 5) ≤ (f_J6_bitCount_0f7a4 (M' 47 1))) = true := by
      rw [e5, show M' 47 1 = upS n (hrsW n (M 216) false k) from g2.1.2.1]
      unfold soC at hc
      cases z : decide ((M 216) 5 ≤ bc (upS n (hrsW n (M 216) false k)))
      · rw [z] at hc; cases hc
      · rfl
    rw [e60, cond_false, ec, cond_true, show (1 : Int32) = nI 1 from rfl, a1, b2_s, nI_add]
  · obtain ⟨q1, M'⟩ := q
    obtain ⟨rfl, g2, g3⟩ := hq
    dsimp only at g2 g3
    refine ⟨M', ?_, g3⟩
    show f_X11_soon_7 (nI (soK n (M 216))) M' = _
    unfold f_X11_soon_7 soV
    by_cases h61 : soK n (M 216) = 61
    · rw [h61]
      rfl
    · have hlt : soK n (M 216) < 61 := by have : soK n (M 216) ≤ 61 := p1; omega
      have hc : soC n (M 216) (soK n (M 216)) = true := p3.resolve_right h61
      have e60 : decide ((60 : Int32) < nI (soK n (M 216))) = false := by
        rw [show (60 : Int32) = nI 60 from rfl, i_lt (by decide) (by omega)]
        exact decide_eq_false (by omega)
      have e5 : M' 47 5 = (M 216) 5 := by rw [show M' 47 5 = hrsW n (M 216) false (soK n (M 216)) 5 from g2.1.2.2.2.2.2.1]; exact hrs_g h8 (by decide) (by decide) (by decide) (by decide) (by decide) _
      have ec : decide ((M' 47 5) ≤ (f_J6_bitCount_0f7a4 (M' 47 1))) = false := by
        rw [e5, show M' 47 1 = upS n (hrsW n (M 216) false (soK n (M 216))) from g2.1.2.1]
        unfold soC at hc
        cases z : decide ((M 216) 5 ≤ bc (upS n (hrsW n (M 216) false (soK n (M 216)))))
        · rfl
        · rw [z] at hc; cases hc
      rw [e60, cond_false, ec, cond_false, decide_eq_false h61, cond_false]
theorem M_soon (h : Rl n M) {Mo : mM} (e : Mo 216 = M 216) : ∃ M2, f_X12_soon Mo = some (soV n (M 216), M2) ∧ RQ Mo M2 := by
  have h8 := h.h8
  obtain ⟨p1, p2, p3⟩ := fstK_p (soC n (M 216)) 61
  generalize hN : mst Mo 215 0 0 = N
  have N216 : N 216 = M 216 := by rw [← hN, mst_no (by decide), e]
  unfold f_X12_soon f_X12_soon_l9
  rw [wr_e, hN, m_kp2 N216, b2_s]
  -- what is left when it is brought back
  have fin : ∀ (l : Int32) (q : mM) k, q 216 = hrsW n (M 216) false k → (∀ z, z ≠ 215 → z ≠ 216 → z ≠ 219 → z ≠ 221 → z ≠ 222 → z ≠ 225 → z ≠ 226 → q z = N z) → q 219 = rs N 219 (va_cpy (M 216) (N 219) 0 0 424) 219 → (∀ k, k ≠ 10 → k ≠ 11 → q 215 k = N 215 k) → f_X12_soon_33 l q = some (l, rs q 216 (M 216)) ∧ RQ Mo (rs q 216 (M 216)) := fun l q k h1 h2 h3 h4 => by
    refine ⟨?_, (rq_nx hN.symm e h2 h4).1⟩
    unfold f_X12_soon_33
    rw [m_back (m_219 h3) (fun j hj => by rw [h1]; exact hrs_g h8 (by omega) (by omega) (by omega) (by omega) (by omega) k), b2_s]
  have step : ∀ (q : mM) k, q 216 = hrsW n (M 216) false k → ∃ v M1, f_X12_oneHour true q = some (v, M1) ∧ M1 216 = hrsW n (M 216) false (k + 1) ∧ (∀ z, z ≠ 215 → z ≠ 216 → z ≠ 221 → z ≠ 222 → z ≠ 225 → z ≠ 226 → M1 z = q z) ∧ ∀ k, k ≠ 10 → k ≠ 11 → M1 215 k = q 215 k := fun q k h1 => by
    obtain ⟨M1, a1, a2, a3, a4⟩ := M_hour (h.wf.hrs h.lw k) (calm := true) h1 (h.lw.hrs h8 k)
    exact ⟨_, M1, a1, a2, a3, a4⟩
  have tst : ∀ (q : mM) k, q 216 = hrsW n (M 216) false k → k < 61 → f_X12_soon_9 (-1) (nI k) q = bif soC n (M 216) k then f_X12_soon_26 (nI k) (nI k) q else f_X12_soon_26 (nI k) (-1) q := fun q k h1 hk => by
    have hn : q 216 0 = nI n := by rw [h1]; exact (h.wf.hrs h.lw k).1
    have e60 : decide ((60 : Int32) < nI k) = false := by
      rw [show (60 : Int32) = nI 60 from rfl, i_lt (by decide) (by omega)]
      exact decide_eq_false (by omega)
    unfold f_X12_soon_9
    rw [e60, cond_false, show decide (¬ (-1 : Int32) = (-1 : Int32)) = false from rfl, cond_false, m_ups hn h8, b1_s, show ix (5 : Int32) = 5 from rfl, h1, hrs_g h8 (show 5 ≠ 3 by decide) (by decide) (by decide) (by decide) (by decide) k]
    unfold soC
    cases decide ((M 216) 5 ≤ bc (upS n (hrsW n (M 216) false k)))
    · rw [cond_false, Bool.not_false, cond_true]
    · rw [cond_true, Bool.not_true, cond_false]
  have P0 : ∀ q k, (∀ z, z ≠ 215 → z ≠ 216 → z ≠ 219 → z ≠ 221 → z ≠ 222 → z ≠ 225 → z ≠ 226 → q z = N z) → q 219 = rs N 219 (va_cpy (M 216) (N 219) 0 0 424) 219 → (∀ k, k ≠ 10 → k ≠ 11 → q 215 k = N 215 k) → q 216 = hrsW n (M 216) false k → ∀ s, ∃ M1, f_X12_soon_26 (nI k) s q = some (.inr (s, nI (k + 1), M1)) ∧ M1 216 = hrsW n (M 216) false (k + 1) ∧ (∀ z, z ≠ 215 → z ≠ 216 → z ≠ 219 → z ≠ 221 → z ≠ 222 → z ≠ 225 → z ≠ 226 → M1 z = N z) ∧ M1 219 = rs N 219 (va_cpy (M 216) (N 219) 0 0 424) 219 ∧ ∀ k, k ≠ 10 → k ≠ 11 → M1 215 k = N 215 k := fun q k h2 h3 h4 h1 s => by
    obtain ⟨v, M1, a1, a2, a3, a4⟩ := step q k h1
    refine ⟨M1, ?_, a2, fun z z1 z2 z3 z4 z5 z6 z7 => by rw [a3 z z1 z2 z4 z5 z6 z7, h2 z z1 z2 z3 z4 z5 z6 z7], by rw [a3 219 (by decide) (by decide) (by decide) (by decide) (by decide) (by decide), h3], fun k k1 k2 => by rw [a4 k k1 k2, h4 k k1 k2]⟩
    unfold f_X12_soon_26
    rw [a1, b2_s, i_1]
  by_cases h61 : soK n (M 216) = 61
  · have hv : soV n (M 216) = -1 := by unfold soV; rw [decide_eq_true h61]; rfl
    rw [hv]
    refine wh_V (fun k (q : Int32 × Int32 × mM) => q.1 = -1 ∧ q.2.1 = nI k ∧ q.2.2 216 = hrsW n (M 216) false k ∧ (∀ z, z ≠ 215 → z ≠ 216 → z ≠ 219 → z ≠ 221 → z ≠ 222 → z ≠ 225 → z ≠ 226 → q.2.2 z = N z) ∧ q.2.2 219 = rs N 219 (va_cpy (M 216) (N 219) 0 0 424) 219 ∧ ∀ k, k ≠ 10 → k ≠ 11 → q.2.2 215 k = N 215 k) _ _ 61 100000 _ ⟨rfl, rfl, by dsimp only; rw [rs_ne (by decide), N216]; rfl, fun z _ _ z3 _ _ _ _ => rs_ne z3, rfl, fun k _ _ => by dsimp only; rw [rs_ne (by decide)]⟩ (fun k hk q hq => ?_) (fun q hq => ?_) (by omega)
    · obtain ⟨q1, q2, M'⟩ := q
      obtain ⟨rfl, rfl, g1, g2, g3, g4⟩ := hq
      dsimp only at g1 g2 g3 g4
      have hc := p2 k (by show k < soK n (M 216); omega)
      obtain ⟨M1, a1, a2, a3, a4, a5⟩ := P0 M' k g2 g3 g4 g1 (-1)
      refine ⟨(-1, nI (k + 1), M1), ?_, rfl, rfl, a2, a3, a4, a5⟩
      show f_X12_soon_9 (-1) (nI k) M' = _
      rw [tst M' k g1 hk, hc, cond_false, a1]
    · obtain ⟨q1, q2, M'⟩ := q
      obtain ⟨rfl, rfl, g1, g2, g3, g4⟩ := hq
      dsimp only at g1 g2 g3 g4
      obtain ⟨b1, b2⟩ := fin (-1) M' 61 g1 g2 g3 g4
      refine ⟨rs M' 216 (M 216), ?_, b2⟩
      show f_X12_soon_9 (-1) (nI 61) M' = _
      unfold f_X12_soon_9
      rw [show decide ((60 : Int32) < nI 61) = true from rfl, cond_true, b1, b1_s]
  · have hlt : soK n (M 216) < 61 := by have : soK n (M 216) ≤ 61 := p1; omega
    have hc : soC n (M 216) (soK n (M 216)) = true := p3.resolve_right h61
    have hv : soV n (M 216) = nI (soK n (M 216)) := by unfold soV; rw [decide_eq_false h61]; rfl
    rw [hv]
    refine wh_V (fun k (q : Int32 × Int32 × mM) => q.1 = (bif decide (k ≤ soK n (M 216)) then -1 else nI (soK n (M 216))) ∧ q.2.1 = nI k ∧ q.2.2 216 = hrsW n (M 216) false k ∧ (∀ z, z ≠ 215 → z ≠ 216 → z ≠ 219 → z ≠ 221 → z ≠ 222 → z ≠ 225 → z ≠ 226 → q.2.2 z = N z) ∧ q.2.2 219 = rs N 219 (va_cpy (M 216) (N 219) 0 0 424) 219 ∧ ∀ k, k ≠ 10 → k ≠ 11 → q.2.2 215 k = N 215 k) _ _ (soK n (M 216) + 1) 100000 _ ⟨by dsimp only; rw [decide_eq_true (Nat.zero_le _)]; rfl, rfl, by dsimp only; rw [rs_ne (by decide), N216]; rfl, fun z _ _ z3 _ _ _ _ => rs_ne z3, rfl, fun k _ _ => by dsimp only; rw [rs_ne (by decide)]⟩ (fun k hk q hq => ?_) (fun q hq => ?_) (by omega)
    · obtain ⟨q1, q2, M'⟩ := q
      obtain ⟨g0, rfl, g1, g2, g3, g4⟩ := hq
      dsimp only at g0 g1 g2 g3 g4
      rw [decide_eq_true (show k ≤ soK n (M 216) by omega), cond_true] at g0
      subst g0
      by_cases hkK : k = soK n (M 216)
      · obtain ⟨M1, a1, a2, a3, a4, a5⟩ := P0 M' k g2 g3 g4 g1 (nI k)
        refine ⟨(nI k, nI (k + 1), M1), ?_, by dsimp only; rw [decide_eq_false (show ¬ k + 1 ≤ soK n (M 216) by omega), cond_false, hkK], rfl, a2, a3, a4, a5⟩
        show f_X12_soon_9 (-1) (nI k) M' = _
        rw [tst M' k g1 (by omega), hkK, hc, cond_true, ← hkK, a1]
      · obtain ⟨M1, a1, a2, a3, a4, a5⟩ := P0 M' k g2 g3 g4 g1 (-1)
        refine ⟨(-1, nI (k + 1), M1), ?_, by dsimp only; rw [decide_eq_true (show k + 1 ≤ soK n (M 216) by omega), cond_true], rfl, a2, a3, a4, a5⟩
        show f_X12_soon_9 (-1) (nI k) M' = _
        rw [tst M' k g1 (by omega), p2 k (by show k < soK n (M 216); omega), cond_false, a1]
    · obtain ⟨q1, q2, M'⟩ := q
      obtain ⟨g0, rfl, g1, g2, g3, g4⟩ := hq
      dsimp only at g0 g1 g2 g3 g4
      rw [decide_eq_false (show ¬ soK n (M 216) + 1 ≤ soK n (M 216) by omega), cond_false] at g0
      subst g0
      obtain ⟨b1, b2⟩ := fin (nI (soK n (M 216))) M' _ g1 g2 g3 g4
      refine ⟨rs M' 216 (M 216), ?_, b2⟩
      show f_X12_soon_9 (nI (soK n (M 216))) (nI (soK n (M 216) + 1)) M' = _
      unfold f_X12_soon_9
      have em : decide (¬ nI (soK n (M 216)) = (-1 : Int32)) = true := decide_eq_true fun z => by
        have := nI_pos (n := soK n (M 216)) (by omega)
        rw [z] at this
        exact this (by decide)
      rw [em, cond_true, b1, b1_s]
      cases decide ((60 : Int32) < nI (soK n (M 216) + 1)) <;> rfl
theorem Op_soon (h : Rl n M) : OpA M f_X11_soon f_X12_soon := by
  obtain ⟨M1, a1, a2⟩ := C_soon h
  exact OpA.q h a1 (CQ.nx fun z z1 z2 => a2 z z1 (by omega)) (fun h1 e => by
    obtain ⟨M2, b1, b2⟩ := M_soon h (Mo := M1) e
    exact ⟨M2, b1, b2⟩)
end
