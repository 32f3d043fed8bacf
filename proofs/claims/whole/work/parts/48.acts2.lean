/-! acts: sleep, lean, rise, need -/
section
variable {n : Nat} {M : mM}
theorem Op_sleep (h : Rl n M) {p : Int32} : OpT M (f_X11_sleep p) (f_X12_sleep p) tIS := by
  have h8 := h.h8
  cases hP : isP n p
  · refine OpT.q h (r := .inr 2) (M1 := M) ?_ CQ.rf (fun Mo e hr => ⟨0, mst (mst Mo 215 0 0) 215 0 1, ?_, rq_thr.1, rq_thr.2.1, rq_thr.2.2, by decide⟩)
    · unfold f_X11_sleep
      rw [C_mustP h, hP]
      rfl
    · unfold f_X12_sleep
      rw [wr_e, b1_a (m_nb h e), hP, m_tIf]
      rfl
  · obtain ⟨k, hk, rfl⟩ := isP_of h8 hP
    have hh : f_X11_has (M 35 2) (nI k) = slB (M 216) k := by rw [h.as, has_hs (by omega), hs_sls (by omega), decide_eq_true hk, Bool.true_and]
    cases hU : slB (M 216) k
    · obtain ⟨e1, t1, f1⟩ := C_to47 h
      have t2 := t1.1.sl h8 hk (x := cpT 47 35 M 47 2 ||| f_X11_bit (nI k)) (v := 1) (by rw [t1.1.2.2.1, sl_1 h8 hk])
      refine OpT.act (t := 2) h (CQ.hi fun z hz => by rw [mst_no (by omega), f1 z (by omega)]) (h.wf.slp hk (Or.inr rfl)) t2 (upd_ne (by omega)) (fun k h1 => upd_ne (by omega)) (fa := f_X9_borneByAll 35) (fb := fun Mx => b2 (f_X12_borneByAll Mx) (fun v8 M8 => some (v8, M8))) (v := sumB n (upd (M 216) (8 + 7 * k + 3) 1)) (fun M6 t6 => T_sumB t6 T35) (fun Mx ex => ?_) rfl (by decide) ?_ (fun Mo e => ?_)
      · obtain ⟨M2, g1, g2⟩ := M_sumB (by rw [upd_ne (by omega)]; exact h.hn) h8 ex
        exact ⟨M2, by rw [b2_a g1], g2⟩
      · unfold f_X11_sleep f_X11_sleep_12 f_X11_mustBeSo
        rw [C_mustP h, hP, cond_true, tb_l, hh, hU, cond_false, cond_true, tb_l, b2_a e1, wr_e]
      · unfold f_X12_sleep
        rw [wr_e, b1_a (m_nb h e), hP, m_tIf, b2_s]
        simp only [Bool.not_true, cond_false, m_isAs (show k < 8 by omega), b1_s, mst_no (show 216 ≠ 215 by decide), e, hU, cond_true, m_tIf, b2_s, m_kp e, show (3 : Int32) = nI 3 from rfl, i_at, gd_t (i_in (show 8 + 7 * k + 3 < 2122 by omega) (by decide)), i_ix (show 8 + 7 * k + 3 < 2 ^ 31 by omega), wr_e, m_putW e]
    · refine OpT.q h (r := .inr 4) (M1 := M) ?_ CQ.rf (fun Mo e hr => ⟨0, mst (mst Mo 215 0 0) 215 0 2, ?_, rq_thr.1, rq_thr.2.1, rq_thr.2.2, by decide⟩)
      · unfold f_X11_sleep f_X11_sleep_12 f_X11_mustBeSo
        rw [C_mustP h, hP, cond_true, tb_l, hh, hU]
        rfl
      · unfold f_X12_sleep
        rw [wr_e, b1_a (m_nb h e), hP, m_tIf, b2_s]
        simp only [Bool.not_true, cond_false, m_isAs (show k < 8 by omega), b1_s, mst_no (show 216 ≠ 215 by decide), e, hU, m_tIf, b2_s]
        rfl
/-- a set that one may be on -/
def fitB (n : Nat) (W : Nat → Int32) (r on : Int32) : Bool := bif decide (r = 0) then decide (on = 0) else !decide (on = 0) && decide (on &&& (rgS n W (r - 1) ^^^ (-1 : Int32)) = 0)
theorem i_ne0 {r : Nat} (h : r ≤ 4) (h0 : nI r ≠ 0) : nI r - 1 ≠ -1 := by
  match r, h with
  | 0, _ => exact absurd rfl h0
  | 1, _ => decide
  | 2, _ => decide
  | 3, _ => decide
  | 4, _ => decide
theorem C_fits (h : Rl n M) {r : Nat} (hr : r ≤ 4) {on : Int32} : f_X9_fitsRing 35 (nI r) on M = some (fitB n (M 216) (nI r) on) := by
  unfold f_X9_fitsRing fitB f_X11_within
  rw [gd_t T35, dn]
  cases e : decide (nI r = 0)
  · rw [Bool.not_false, cond_true, cond_false]
    cases e2 : decide (on = 0)
    · rw [cond_false, C_inRing h.tr T35 (i_ne0 hr (of_decide_eq_false e)), b1_s, Bool.not_false, Bool.true_and, dn]
      cases decide (on &&& (rgS n (M 216) (nI r - 1) ^^^ (-1 : Int32)) = 0) <;> rfl
    · rfl
  · rw [Bool.not_true, cond_false, cond_true, dn]
    cases decide (on = 0) <;> rfl
theorem M_wrong {Mo : mM} (hn : Mo 216 0 = nI n) (h8 : n ≤ 8) {r on : Int32} : f_X12_wrongOn r on Mo = some (!fitB n (Mo 216) r on) := by
  unfold f_X12_wrongOn fitB
  rw [dn]
  cases e : decide (r = 0)
  · rw [Bool.not_false, cond_true, cond_false]
    cases e2 : decide (on = 0)
    · rw [cond_false, m_those hn h8, b1_s, Bool.not_false, Bool.true_and]
      cases decide (on &&& (rgS n (Mo 216) (r - 1) ^^^ (-1 : Int32)) = 0) <;> rfl
    · rfl
  · rw [Bool.not_true, cond_false, cond_true]
    cases decide (on = 0) <;> rfl
theorem fit_sub {W : Nat → Int32} {r : Nat} (hr : r ≤ 4) {on : Int32} (hS : S8 on) (h : fitB n W (nI r) on = true) : (decide (nI r ≤ 0) = true → on = 0) ∧ ∀ q, q < 8 → hs on q = true → q < n ∧ pv W q 5 + 1 = nI r ∧ upB W q = true := by
  unfold fitB at h
  cases e : decide (nI r = 0)
  · have e0 := of_decide_eq_false e
    rw [e, cond_false, Bool.and_eq_true] at h
    have h2 := of_decide_eq_true h.2
    obtain ⟨r, rfl⟩ : ∃ z, r = z + 1 := ⟨r - 1, by
      have : r ≠ 0 := fun z => by subst z; exact e0 rfl
      omega⟩
    refine ⟨fun z => absurd (of_decide_eq_true z) (nI_nle (by omega) (by omega)), fun q hq g => ?_⟩
    have h3 := hs_and on (rgS n W (nI (r + 1) - 1) ^^^ (-1 : Int32)) q
    rw [h2, hs_0, g, Bool.true_and, hs_nn (by omega), nI_pred] at h3
    have h4 : hs (rgS n W (nI r)) q = true := by
      cases z : hs (rgS n W (nI r)) q
      · rw [z] at h3; cases h3
      · rfl
    unfold rgS at h4
    rw [hs_set8 hq, Bool.and_eq_true] at h4
    have h5 := of_decide_eq_true h4.2
    exact ⟨of_decide_eq_true h4.1, by rw [h5, nI_1], ring_up (by omega) h5⟩
  · rw [e, cond_true] at h
    have := of_decide_eq_true h
    subst this
    exact ⟨fun _ => rfl, fun q _ g => by rw [hs_0] at g; cases g⟩
/-- one's ON is another -/
theorem WF.onp {W : Nat → Int32} {k : Nat} {on : Int32} (hw : WF n W) (hk : k < n) (hS : S8 on) (h0 : decide (pv W k 5 ≤ 0) = true → on = 0) (hq : ∀ q, q < 8 → hs on q = true → q < n ∧ pv W q 5 + 1 = pv W k 5 ∧ upB W q = true) : WF n (upd W (8 + 7 * k + 6) on) := by
  obtain ⟨a0, a1, a2, a3, a4, a5, a6, a7⟩ := hw
  have ep : ∀ p c, c < 7 → c ≠ 6 → pv (upd W (8 + 7 * k + 6) on) p c = pv W p c := fun p c hc h3 => pv_un (by decide) hc (Or.inr h3)
  have eo : ∀ j, (j < 8 ∨ 64 ≤ j) → upd W (8 + 7 * k + 6) on j = W j := fun j hj => upd_ne (by omega)
  have eu : ∀ p, upB (upd W (8 + 7 * k + 6) on) p = upB W p := fun p => by unfold upB; rw [ep p 5 (by decide) (by decide)]
  refine ⟨by rw [eo _ (by decide)]; exact a0, a1, fun p hp => ?_, fun p hp => ?_, by rw [eo _ (by decide)]; exact a4, by rw [eo _ (by decide)]; exact a5, by rw [eo _ (by decide)]; exact a6, by rw [eo _ (by decide)]; exact a7⟩
  · obtain ⟨b1, b2, b3, b4, b5⟩ := a2 p hp
    rw [ep p 3 (by decide) (by decide), ep p 5 (by decide) (by decide), pv_upd (by decide) (by decide)]
    by_cases h : p = k
    · subst h
      rw [if_pos ⟨rfl, rfl⟩]
      refine ⟨b1, b2, hS, h0, fun q hq8 g => ?_⟩
      rw [ep q 5 (by decide) (by decide), eu]
      exact hq q hq8 g
    · rw [if_neg (fun z => h z.1)]
      refine ⟨b1, b2, b3, b4, fun q hq8 g => ?_⟩
      rw [ep q 5 (by decide) (by decide), eu]
      exact b5 q hq8 g
  · rw [ep p 0 (by decide) (by decide), ep p 1 (by decide) (by decide), ep p 2 (by decide) (by decide), ep p 4 (by decide) (by decide)]
    exact a3 p hp
theorem TR.onp {W : Nat → Int32} {o k : Nat} {N : mM} {on : Int32} (h : TR n W N o) (h8 : n ≤ 8) (hk : k < n) : TR n (upd W (8 + 7 * k + 6) on) (mst N (o + 6) k on) o := by
  obtain ⟨-, a1, a2, a3, a4, a5, a6, a7, -⟩ := id h
  have ep : ∀ p c, c < 7 → c ≠ 6 → pv (upd W (8 + 7 * k + 6) on) p c = pv W p c := fun p c hc h3 => pv_un (by decide) hc (Or.inr h3)
  have eo : ∀ j, (j < 8 ∨ 64 ≤ j) → upd W (8 + 7 * k + 6) on j = W j := fun j hj => upd_ne (by omega)
  have eu : ∀ p, upB (upd W (8 + 7 * k + 6) on) p = upB W p := fun p => by unfold upB; rw [ep p 5 (by decide) (by decide)]
  have es : ∀ p, slB (upd W (8 + 7 * k + 6) on) p = slB W p := fun p => by unfold slB; rw [ep p 3 (by decide) (by decide)]
  have eF : ∀ z, z ≠ o + 6 → mst N (o + 6) k on z = N z := fun z hz => mst_no hz
  refine h.up (by rw [eF _ (by omega)]) ?_ ?_ ?_ ?_ ?_ ?_ ?_ (fun p hp => ?_) (fun p hp hp8 => ?_) (eF _ (by omega)) (eF _ (by omega)) (eo 6 (by decide)) (fun j h1 h2 => eo j (by omega))
  · rw [eF _ (by omega), a1]
    exact set_congr fun p hp => by rw [eu]
  · rw [eF _ (by omega), a2]
    exact set_congr fun p hp => by rw [es]
  · rw [eF _ (by omega), eo _ (by decide), a3]
  · rw [eF _ (by omega), eo _ (by decide), a4]
  · rw [eF _ (by omega), eo _ (by decide), a5]
  · rw [eF _ (by omega), eo _ (by decide), a6]
  · rw [eF _ (by omega), eo _ (by decide), a7]
  · obtain ⟨b0, b1, b2, b3, b4, b5⟩ := h.pp hp
    rw [eF (o + 1) (by omega), eF (o + 2) (by omega), eF (o + 3) (by omega), eF (o + 4) (by omega), eF (o + 5) (by omega), ep p 0 (by decide) (by decide), ep p 1 (by decide) (by decide), ep p 2 (by decide) (by decide), ep p 4 (by decide) (by decide), ep p 5 (by decide) (by decide), eu, pv_upd (by decide) (by decide)]
    refine ⟨b0, b1, b2, b3, ?_, b5⟩
    by_cases h : p = k
    · subst h
      rw [if_pos ⟨rfl, rfl⟩, mst_oo]
    · rw [if_neg (fun z => h z.1), mst_nk h, b4]
  · rw [eF (o + 3) (by omega), eF (o + 4) (by omega), mst_nk (by omega)]
    exact h.p0 hp hp8
theorem S8.ev {on : Int32} : S8 (on &&& evS n) := S8.andr (S8.set _)
theorem up_lt1 {W : Nat → Int32} {k : Nat} (hg : pv W k 5 = -1 ∨ ∃ r, r ≤ 4 ∧ pv W k 5 = nI r) : decide (pv W k 5 < (1 : Int32)) = decide (pv W k 5 ≤ 0) := by
  rcases hg with g | ⟨r, hr, g⟩
  · rw [g]; decide
  · rw [g]
    match r, hr with
    | 0, _ => decide
    | 1, _ => decide
    | 2, _ => decide
    | 3, _ => decide
    | 4, _ => decide
theorem Op_lean (h : Rl n M) {p on : Int32} : OpT M (f_X11_lean p on) (f_X12_lean p on) tIS := by
  have h8 := h.h8
  cases hP : isP n p
  · refine OpT.q h (r := .inr 2) (M1 := M) ?_ CQ.rf (fun Mo e hr => ⟨0, mst (mst Mo 215 0 0) 215 0 1, ?_, rq_thr.1, rq_thr.2.1, rq_thr.2.2, by decide⟩)
    · unfold f_X11_lean
      rw [C_mustP h, hP]
      rfl
    · unfold f_X12_lean
      rw [wr_e, b1_a (m_nb h e), hP, m_tIf]
      rfl
  · obtain ⟨k, hk, rfl⟩ := isP_of h8 hP
    have hrg := h.wf.rg hk
    have g := h.tr.pp hk
    -- the reference, up to its test
    have hM : ∀ Mo : mM, Mo 216 = M 216 → f_X12_lean (nI k) on Mo = bif decide (pv (M 216) k 5 ≤ 0) || !fitB n (M 216) (pv (M 216) k 5) (on &&& evS n) then f_X12_lean_32 (nI k) (on &&& evS n) (mst Mo 215 0 0) else f_X12_lean_35 (nI k) (on &&& evS n) false (mst Mo 215 0 0) := fun Mo e => by
      unfold f_X12_lean
      have hn' : mst Mo 215 0 0 216 0 = nI n := by rw [mst_no (by decide), e]; exact h.hn
      rw [wr_e, b1_a (m_nb h e), hP, m_tIf, b2_s]
      simp only [Bool.not_true, cond_false, M_every hn' h8, b1_s, show (5 : Int32) = nI 5 from rfl, m_of (show k < 8 by omega) (show 5 < 7 by decide), mst_no (show 216 ≠ 215 by decide), e, M_wrong hn' h8, up_lt1 hrg]
      cases decide (pv (M 216) k 5 ≤ 0) <;> cases fitB n (M 216) (pv (M 216) k 5) (on &&& evS n) <;> simp only [Bool.not_true, Bool.not_false, Bool.or_true, Bool.or_false, Bool.true_or, Bool.false_or, cond_true, cond_false]
    have thr : (decide (pv (M 216) k 5 ≤ 0) || !fitB n (M 216) (pv (M 216) k 5) (on &&& evS n)) = true → f_X11_lean (nI k) on M = some (.inr 4, M) → OpT M (f_X11_lean (nI k) on) (f_X12_lean (nI k) on) tIS := fun hc e1 => by
      refine OpT.q h (r := .inr 4) (M1 := M) e1 CQ.rf (fun Mo e hr => ⟨0, mst (mst Mo 215 0 0) 215 0 2, ?_, rq_thr.1, rq_thr.2.1, rq_thr.2.2, by decide⟩)
      rw [hM Mo e, hc, cond_true]
      unfold f_X12_lean_32 f_X12_lean_35
      rw [m_tIf]
      rfl
    cases hU : upB (M 216) k
    · refine thr (by rw [upB_le hU]; rfl) ?_
      unfold f_X11_lean
      rw [C_mustP h, hP, cond_true, tb_l, C_mustUp h hk, hU]
      rfl
    · have h40 : M 40 k = pv (M 216) k 5 := g.2.2.2.2.2 hU
      have hC : f_X11_lean (nI k) on M = bif decide (pv (M 216) k 5 ≤ 0) then f_X11_lean_28 (nI k) (on &&& evS n) M else b1 (f_X9_fitsRing 35 (pv (M 216) k 5) (on &&& evS n) M) (fun v12 => bif v12 then (f_X11_lean_29 (nI k) (on &&& evS n) true M) else (f_X11_lean_28 (nI k) (on &&& evS n) M)) := by
        unfold f_X11_lean
        rw [C_mustP h, hP, cond_true, tb_l, C_mustUp h hk, hU, cond_true, tb_l, gd_t (i_in (by omega) (by decide)), C_every h, b1_s, i_ix (by omega), h40]
      cases h0 : decide (pv (M 216) k 5 ≤ 0)
      · obtain ⟨r, hr, e5⟩ : ∃ r, r ≤ 4 ∧ pv (M 216) k 5 = nI r := by
          rcases hrg with q | q
          · rw [q] at h0; exact absurd h0 (by decide)
          · exact q
        rw [h0, cond_false, e5, C_fits h hr, b1_s] at hC
        cases hf : fitB n (M 216) (nI r) (on &&& evS n)
        · refine thr (by rw [e5, hf, Bool.not_false, Bool.or_true]) ?_
          rw [hC, hf]
          unfold f_X11_lean_28 f_X11_lean_29 f_X11_mustBeSo
          rfl
        · obtain ⟨q1, q2⟩ := fit_sub hr S8.ev hf
          obtain ⟨e1, t1, f1⟩ := C_to47 h
          have t2 := t1.1.onp (on := on &&& evS n) h8 hk
          refine OpT.act (t := 2) h (CQ.hi fun z hz => by rw [mst_no (by omega), f1 z (by omega)]) (h.wf.onp hk S8.ev (by rw [e5]; exact q1) (by rw [e5]; exact q2)) t2 (upd_ne (by omega)) (fun k h1 => upd_ne (by omega)) (fa := fun _ => some (pv (M 216) k 6)) (fb := fun Mx => some (pv (M 216) k 6, Mx)) (v := pv (M 216) k 6) (fun M6 t6 => rfl) (fun Mx ex => ⟨Mx, rfl, fun z _ => rfl⟩) rfl (by decide) ?_ (fun Mo e => ?_)
          · rw [hC, hf, cond_true]
            unfold f_X11_lean_29 f_X11_mustBeSo
            rw [cond_true, tb_l, gd_t (i_in (by omega) (by decide)), b2_a e1, gd_t (i_in (by omega) (by decide)), i_ix (by omega), wr_e, show M 41 k = pv (M 216) k 6 from g.2.2.2.2.1]
            rfl
          · rw [hM Mo e, h0, e5, hf]
            simp only [Bool.not_true, Bool.or_false, cond_false]
            unfold f_X12_lean_35
            have hn' : rs (mst Mo 215 0 0) 219 (va_cpy (M 216) (Mo 219) 0 0 424) 216 = M 216 := by rw [rs_ne (by decide), mst_no (by decide), e]
            simp only [m_tIf, b2_s, cond_false, m_kp e, show (6 : Int32) = nI 6 from rfl, m_of (show k < 8 by omega) (show 6 < 7 by decide), hn', b1_s, i_at, gd_t (i_in (show 8 + 7 * k + 6 < 2122 by omega) (by decide)), i_ix (show 8 + 7 * k + 6 < 2 ^ 31 by omega), wr_e, m_putW e]
      · refine thr (by rw [h0]; rfl) ?_
        rw [hC, h0, cond_true]
        unfold f_X11_lean_28 f_X11_lean_29 f_X11_mustBeSo
        rfl
end
