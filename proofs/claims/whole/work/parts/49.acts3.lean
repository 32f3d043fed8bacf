/-! acts: rise, relieve, need -/
theorem i_s1 (x : Int32) : x + 1 ≠ x := fun h => by
  have := congrArg (fun z => z - x) h
  simp only [Int32.sub_self, Int32.add_comm x 1, Int32.add_sub_cancel] at this
  exact absurd this (by decide)
theorem nI_m1 {j : Nat} (hj : j ≤ 4) : nI j ≠ -1 := by
  match j, hj with
  | 0, _ => decide
  | 1, _ => decide
  | 2, _ => decide
  | 3, _ => decide
  | 4, _ => decide
def rgB (r : Int32) : Bool := !decide (r < 0) && decide (r < (5 : Int32))
theorem rgB_of {r : Int32} (h : rgB r = true) : ∃ j, j ≤ 4 ∧ r = nI j := by
  unfold rgB at h
  rw [Bool.and_eq_true, ← dn] at h
  rcases pk_ix r (n := 5) (by decide) with q | q | ⟨j, hj, e⟩
  · exact absurd q (of_decide_eq_true h.1)
  · exact absurd (of_decide_eq_true h.2) (Int32.not_lt.mpr q)
  · exact ⟨j, by omega, e⟩
theorem in_04 (r : Int32) : f_X12_in r 0 4 = rgB r := by
  unfold f_X12_in rgB
  have : decide ((4 : Int32) < r) = !decide (r < (5 : Int32)) := by
    rw [← dn, decide_eq_decide, Int32.lt_iff_toInt_lt, Int32.lt_iff_toInt_lt, show (4 : Int32).toInt = 4 from rfl, show (5 : Int32).toInt = 5 from rfl]
    omega
  rw [this]
  cases decide (r < 0) <;> cases decide (r < (5 : Int32)) <;> rfl
section
variable {n : Nat} {M : mM}
theorem C_mustR {M : mM} {r : Int32} : f_X11_mustBeRing r M = some (bif rgB r then .inl () else .inr 2, M) := by
  unfold f_X11_mustBeRing f_X11_mustBeRing_5 rgB
  cases decide (r < 0) <;> cases decide (r < (5 : Int32)) <;> rfl
/-- one comes in -/
def wUp (W : Nat → Int32) (k : Nat) (r on : Int32) : Nat → Int32 := upd (upd W (8 + 7 * k + 5) r) (8 + 7 * k + 6) on
section
variable {W : Nat → Int32} {k : Nat} {r on : Int32}
theorem wU_5 {p : Nat} : pv (wUp W k r on) p 5 = if p = k then r else pv W p 5 := by
  unfold wUp
  rw [pv_un (by decide) (by decide) (Or.inr (by decide)), pv_upd (by decide) (by decide)]
  by_cases h : p = k
  · rw [if_pos ⟨h, rfl⟩, if_pos h]
  · rw [if_neg (fun z => h z.1), if_neg h]
theorem wU_6 {p : Nat} : pv (wUp W k r on) p 6 = if p = k then on else pv W p 6 := by
  unfold wUp
  rw [pv_upd (by decide) (by decide)]
  by_cases h : p = k
  · rw [if_pos ⟨h, rfl⟩, if_pos h]
  · rw [if_neg (fun z => h z.1), if_neg h, pv_un (by decide) (by decide) (Or.inr (by decide))]
theorem wU_c {p c : Nat} (hc : c < 7) (h5 : c ≠ 5) (h6 : c ≠ 6) : pv (wUp W k r on) p c = pv W p c := by
  unfold wUp
  rw [pv_un (by decide) hc (Or.inr h6), pv_un (by decide) hc (Or.inr h5)]
theorem wU_o (hk : k < 8) {j : Nat} (hj : j < 8 ∨ 64 ≤ j) : wUp W k r on j = W j := by
  unfold wUp
  rw [upd_ne (by omega), upd_ne (by omega)]
theorem wU_up (hr : r ≠ -1) {p : Nat} : upB (wUp W k r on) p = (upB W p || decide (p = k)) := by
  unfold upB
  rw [wU_5]
  by_cases h : p = k
  · rw [if_pos h, decide_eq_false hr, decide_eq_true h, Bool.or_true]; rfl
  · rw [if_neg h, decide_eq_false h, Bool.or_false]
theorem wU_sl {p : Nat} : slB (wUp W k r on) p = slB W p := by
  unfold slB
  rw [wU_c (by decide) (by decide) (by decide)]
theorem WF.rise (hw : WF n W) (hk : k < n) (hd : upB W k = false) {j : Nat} (hj : j ≤ 4) (hrj : r = nI j) (hS : S8 on) (h0 : decide (r ≤ 0) = true → on = 0) (hq : ∀ q, q < 8 → hs on q = true → q < n ∧ pv W q 5 + 1 = r ∧ upB W q = true) : WF n (wUp W k r on) := by
  have hr : r ≠ -1 := by
    rw [hrj]
    match j, hj with
    | 0, _ => decide
    | 1, _ => decide
    | 2, _ => decide
    | 3, _ => decide
    | 4, _ => decide
  obtain ⟨a0, a1, a2, a3, a4, a5, a6, a7⟩ := hw
  have eo : ∀ j, (j < 8 ∨ 64 ≤ j) → wUp W k r on j = W j := fun j hj => wU_o (by omega) hj
  have q0 : ∀ q, upB W q = true → pv (wUp W k r on) q 5 = pv W q 5 ∧ upB (wUp W k r on) q = true := fun q g => by
    have : q ≠ k := fun e => by rw [e, hd] at g; cases g
    rw [wU_5, if_neg this, wU_up hr, g]
    exact ⟨rfl, rfl⟩
  refine ⟨by rw [eo _ (by decide)]; exact a0, a1, fun p hp => ?_, fun p hp => ?_, by rw [eo _ (by decide)]; exact a4, by rw [eo _ (by decide)]; exact a5, by rw [eo _ (by decide)]; exact a6, by rw [eo _ (by decide)]; exact a7⟩
  · obtain ⟨b1, b2, b3, b4, b5⟩ := a2 p hp
    rw [wU_c (by decide) (by decide) (by decide), wU_5, wU_6]
    by_cases h : p = k
    · rw [if_pos h, if_pos h]
      refine ⟨b1, Or.inr ⟨j, hj, hrj⟩, hS, h0, fun q hq8 g => ?_⟩
      obtain ⟨c1, c2, c3⟩ := hq q hq8 g
      rw [(q0 q c3).1]
      exact ⟨c1, c2, (q0 q c3).2⟩
    · rw [if_neg h, if_neg h]
      refine ⟨b1, b2, b3, b4, fun q hq8 g => ?_⟩
      obtain ⟨c1, c2, c3⟩ := b5 q hq8 g
      rw [(q0 q c3).1]
      exact ⟨c1, c2, (q0 q c3).2⟩
  · rw [wU_c (by decide) (by decide) (by decide), wU_c (by decide) (by decide) (by decide), wU_c (by decide) (by decide) (by decide), wU_c (by decide) (by decide) (by decide)]
    exact a3 p hp
theorem T_bring {o : Nat} {N : mM} (ho : mTwB o = true) (hk : k < 8) : f_X9_bringUp o (nI k) r on N = some ((), mst (mst (mst N o 1 (N o 1 ||| f_X11_bit (nI k))) (o + 5) k r) (o + 6) k on) := by
  unfold f_X9_bringUp
  rw [gd_t ho, wr_e, gd_t (i_in hk i_28), wr_e, gd_t (i_in hk i_28), wr_e, i_ix (by omega)]
theorem TR.bring {o : Nat} {N : mM} (h : TR n W N o) (h8 : n ≤ 8) (hk : k < n) (hr : r ≠ -1) : TR n (wUp W k r on) (mst (mst (mst N o 1 (N o 1 ||| f_X11_bit (nI k))) (o + 5) k r) (o + 6) k on) o := by
  obtain ⟨-, a1, a2, a3, a4, a5, a6, a7, -⟩ := id h
  have eo : ∀ j, (j < 8 ∨ 64 ≤ j) → wUp W k r on j = W j := fun j hj => wU_o (by omega) hj
  have eF : ∀ z, z ≠ o → z ≠ o + 5 → z ≠ o + 6 → mst (mst (mst N o 1 (N o 1 ||| f_X11_bit (nI k))) (o + 5) k r) (o + 6) k on z = N z := fun z h1 h2 h3 => by rw [mst_no h3, mst_no h2, mst_no h1]
  have e0 : ∀ j, j ≠ 1 → mst (mst (mst N o 1 (N o 1 ||| f_X11_bit (nI k))) (o + 5) k r) (o + 6) k on o j = N o j := fun j hj => by rw [mst_no (by omega), mst_no (by omega), mst_nk hj]
  refine h.up (e0 0 (by decide)) ?_ ?_ ?_ ?_ ?_ ?_ ?_ (fun p hp => ?_) (fun p hp hp8 => ?_) (eF _ (by omega) (by omega) (by omega)) (eF _ (by omega) (by omega) (by omega)) (eo 6 (by decide)) (fun j h1 h2 => eo j (by omega))
  · rw [mst_no (by omega), mst_no (by omega), mst_oo, a1]
    refine S8.ext (S8.or (S8.set _) (S8.bit (by omega))) (S8.set _) fun j hj => ?_
    rw [hs_or, hs_bit (by omega) (by omega), hs_ups hj, hs_ups hj, wU_up hr]
    by_cases h : j = k
    · subst h
      rw [decide_eq_true hk, decide_eq_true (rfl : j = j), Bool.or_true, Bool.or_true]; rfl
    · rw [decide_eq_false (Ne.symm h), decide_eq_false h, Bool.or_false, Bool.or_false]
  · rw [e0 2 (by decide), a2]
    exact set_congr fun p hp => by rw [wU_sl]
  · rw [e0 3 (by decide), eo _ (by decide), a3]
  · rw [e0 4 (by decide), eo _ (by decide), a4]
  · rw [e0 5 (by decide), eo _ (by decide), a5]
  · rw [e0 6 (by decide), eo _ (by decide), a6]
  · rw [e0 7 (by decide), eo _ (by decide), a7]
  · obtain ⟨b0, b1, b2, b3, b4, b5⟩ := h.pp hp
    rw [eF (o + 1) (by omega) (by omega) (by omega), eF (o + 2) (by omega) (by omega) (by omega), eF (o + 3) (by omega) (by omega) (by omega), eF (o + 4) (by omega) (by omega) (by omega), wU_c (by decide) (by decide) (by decide), wU_c (by decide) (by decide) (by decide), wU_c (by decide) (by decide) (by decide), wU_c (by decide) (by decide) (by decide), wU_5, wU_6, wU_up hr]
    refine ⟨b0, b1, b2, b3, ?_, fun g => ?_⟩
    · by_cases h : p = k
      · subst h
        rw [if_pos rfl, mst_oo]
      · rw [if_neg h, mst_nk h, mst_no (by omega), mst_no (by omega), b4]
    · rw [mst_no (by omega)]
      by_cases h : p = k
      · subst h
        rw [if_pos rfl, mst_oo]
      · rw [decide_eq_false h, Bool.or_false] at g
        rw [if_neg h, mst_nk h, mst_no (by omega), b5 g]
  · rw [eF (o + 3) (by omega) (by omega) (by omega), eF (o + 4) (by omega) (by omega) (by omega), mst_nk (by omega), mst_no (by omega), mst_no (by omega)]
    exact h.p0 hp hp8
end
set_option maxHeartbeats 4000000 in
theorem Op_rise (h : Rl n M) {p r on : Int32} : OpT M (f_X11_rise p r on) (f_X12_rise p r on) tIS := by
  have h8 := h.h8
  have hM : ∀ Mo : mM, Mo 216 = M 216 → f_X12_rise p r on Mo = f_X12_rise_16 p r on (!(isP n p && rgB r)) (mst Mo 215 0 0) := fun Mo e => by
    unfold f_X12_rise f_X12_rise_13
    rw [wr_e, b1_a (m_nb h e), in_04]
    cases isP n p <;> cases rgB r <;> rfl
  have thr1 : (isP n p && rgB r) = false → f_X11_rise p r on M = some (.inr 2, M) → OpT M (f_X11_rise p r on) (f_X12_rise p r on) tIS := fun hc e1 => by
    refine OpT.q h (r := .inr 2) (M1 := M) e1 CQ.rf (fun Mo e hr => ⟨0, mst (mst Mo 215 0 0) 215 0 1, ?_, rq_thr.1, rq_thr.2.1, rq_thr.2.2, by decide⟩)
    rw [hM Mo e, hc]
    unfold f_X12_rise_16
    rw [m_tIf]
    rfl
  cases hP : isP n p
  · refine thr1 (by rw [hP]; rfl) ?_
    unfold f_X11_rise
    rw [C_mustP h, hP]
    rfl
  · obtain ⟨k, hk, rfl⟩ := isP_of h8 hP
    cases hR : rgB r
    · refine thr1 (by rw [hR, Bool.and_false]) ?_
      unfold f_X11_rise
      rw [C_mustP h, hP, cond_true, tb_l, C_mustR, hR]
      rfl
    · obtain ⟨j, hj, rfl⟩ := rgB_of hR
      have hM2 : ∀ Mo : mM, Mo 216 = M 216 → f_X12_rise (nI k) (nI j) on Mo = f_X12_rise_39 (nI k) (nI j) (on &&& evS n) (upB (M 216) k || !fitB n (M 216) (nI j) (on &&& evS n)) (mst Mo 215 0 0) := fun Mo e => by
        have hn' : mst Mo 215 0 0 216 0 = nI n := by rw [mst_no (by decide), e]; exact h.hn
        rw [hM Mo e, hP, hR]
        unfold f_X12_rise_16 f_X12_rise_36
        simp only [Bool.and_true, Bool.not_true, cond_false, m_tIf, b2_s, M_every hn' h8, b1_s, m_isUp (show k < 8 by omega), mst_no (show 216 ≠ 215 by decide), e, M_wrong hn' h8]
        cases upB (M 216) k <;> cases fitB n (M 216) (nI j) (on &&& evS n) <;> simp only [Bool.not_true, Bool.not_false, Bool.or_true, Bool.or_false, Bool.true_or, Bool.false_or, Bool.and_true, Bool.and_false, Bool.true_and, Bool.false_and, cond_true, cond_false]
      have hC : f_X11_rise (nI k) (nI j) on M = f_X11_rise_26 (nI k) (nI j) (on &&& evS n) (!(upB (M 216) k || !fitB n (M 216) (nI j) (on &&& evS n))) M := by
        unfold f_X11_rise f_X11_rise_25
        rw [C_mustP h, hP, cond_true, tb_l, C_mustR, hR, cond_true, tb_l, C_every h, b1_s, h.up, has_hs (by omega), hs_ups (by omega), decide_eq_true hk, Bool.true_and, C_fits h hj, b1_s]
        cases upB (M 216) k <;> cases fitB n (M 216) (nI j) (on &&& evS n) <;> simp only [Bool.not_true, Bool.not_false, Bool.or_true, Bool.or_false, Bool.true_or, Bool.false_or, Bool.and_true, Bool.and_false, Bool.true_and, Bool.false_and, cond_true, cond_false]
      cases hT : upB (M 216) k || !fitB n (M 216) (nI j) (on &&& evS n)
      · rw [Bool.or_eq_false_iff] at hT
        have hf : fitB n (M 216) (nI j) (on &&& evS n) = true := by
          cases z : fitB n (M 216) (nI j) (on &&& evS n)
          · rw [z] at hT; exact absurd hT.2 (by decide)
          · rfl
        obtain ⟨q1, q2⟩ := fit_sub hj S8.ev hf
        have hr1 := nI_m1 hj
        obtain ⟨e1, t1, f1⟩ := C_to47 h
        have t2 := t1.1.bring (r := nI j) (on := on &&& evS n) h8 hk hr1
        refine OpT.act (t := 2) h (CQ.hi fun z hz => by rw [mst_no (by omega), mst_no (by omega), mst_no (by omega), f1 z (by omega)]) (h.wf.rise hk hT.1 hj rfl S8.ev q1 q2) t2 (wU_o (by omega) (by decide)) (fun i h1 => wU_o (by omega) (by omega)) (fa := f_X9_borneByAll 35) (fb := fun Mx => b2 (f_X12_borneByAll Mx) (fun v8 M8 => some (v8, M8))) (v := sumB n (wUp (M 216) k (nI j) (on &&& evS n))) (fun M6 t6 => T_sumB t6 T35) (fun Mx ex => ?_) rfl (by decide) ?_ (fun Mo e => ?_)
        · obtain ⟨M2, g1, g2⟩ := M_sumB (by rw [wU_o (by omega) (by decide)]; exact h.hn) h8 ex
          exact ⟨M2, by rw [b2_a g1], g2⟩
        · rw [hC, hT.1, hf]
          unfold f_X11_rise_26 f_X11_mustBeSo
          rw [Bool.not_true, Bool.false_or, Bool.not_false, cond_true, tb_l, b2_a e1, T_bring T47 (by omega), b2_s]
        · rw [hM2 Mo e, hT.1, hf]
          unfold f_X12_rise_39 wUp
          simp only [Bool.not_true, Bool.false_or, m_tIf, b2_s, cond_false, m_kp e, show (6 : Int32) = nI 6 from rfl, show (5 : Int32) = nI 5 from rfl, i_at, gd_t (i_in (show 8 + 7 * k + 6 < 2122 by omega) (by decide)), i_ix (show 8 + 7 * k + 6 < 2 ^ 31 by omega), gd_t (i_in (show 8 + 7 * k + 5 < 2122 by omega) (by decide)), i_ix (show 8 + 7 * k + 5 < 2 ^ 31 by omega), wr_e, m_putW e, rs_st]
      · refine OpT.q h (r := .inr 4) (M1 := M) ?_ CQ.rf (fun Mo e hr => ⟨0, mst (mst Mo 215 0 0) 215 0 2, ?_, rq_thr.1, rq_thr.2.1, rq_thr.2.2, by decide⟩)
        · rw [hC, hT]
          rfl
        · rw [hM2 Mo e, hT]
          unfold f_X12_rise_39
          rw [m_tIf]
          rfl
end
