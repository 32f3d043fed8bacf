/-! acts: out, wake, sleep, lean, rise, relieve, need -/
theorem b2_a {α γ : Type} {o : Option (α × mM)} {a : α} {M : mM} {k : α → mM → Option γ} (h : o = some (a, M)) : b2 o k = k a M := by rw [h]; rfl
theorem b1_a {α γ : Type} {o : Option α} {a : α} {k : α → Option γ} (h : o = some a) : b1 o k = k a := by rw [h]; rfl
theorem tb_l {α β : Type} {a : α} {M : mM} {k : α → mM → Option ((β ⊕ Nat) × mM)} : tb (some (.inl a, M)) k = k a M := rfl
theorem tb_r {α β : Type} {E : Nat} {M : mM} {k : α → mM → Option ((β ⊕ Nat) × mM)} : tb (some (.inr E, M)) k = some (.inr E, M) := rfl
section
variable {n : Nat} {M : mM}
/-- an op that asks, or throws at once -/
theorem OpT.q {fc : mM → Option ((Int32 ⊕ Nat) × mM)} {fm : mM → Option (Int32 × mM)} {t : Nat → Int32} (h : Rl n M) {r : Int32 ⊕ Nat} {M1 : mM} (hc : fc M = some (r, M1)) (hq : CQ M M1) (hm : ∀ Mo : mM, Mo 216 = M 216 → Rl n Mo → ∃ v M2, fm Mo = some (v, M2) ∧ RQ Mo M2 ∧ M2 231 = Mo 231 ∧ Rsp t r v (M2 215 0)) : OpT M fc fm t := by
  refine ⟨r, M1, hc, fun Mo ho => ?_⟩
  have h1 := h.cq hq
  have hrq : RQ M1 Mo := ⟨fun z a b => ho z (fun e => by subst e; cases a), fun k _ => by rw [ho 215 (by decide)]⟩
  have h2 := h1.mq hrq
  obtain ⟨v, M2, e1, e2, e3, e4⟩ := hm Mo (by rw [ho 216 (by decide), hq.1 216 rfl (by decide)]) h2
  exact ⟨v, M2, e1, e3, ⟨n, h2.mq e2⟩, e4⟩
theorem C_mustUp (h : Rl n M) {k : Nat} (hk : k < n) : f_X11_mustBeUp (nI k) M = some (bif upB (M 216) k then .inl () else .inr 4, M) := by
  have h8 := h.h8
  unfold f_X11_mustBeUp f_X11_mustBeSo
  rw [h.up, has_hs (by omega), hs_ups (by omega), decide_eq_true hk, Bool.true_and]
  cases upB (M 216) k <;> rfl
theorem C_mustHold (h : Rl n M) {k : Nat} (hk : k < n) : f_X11_mustHold (nI k) M = some (bif hoB (M 216) k then .inl () else .inr 4, M) := by
  have h8 := h.h8
  unfold f_X11_mustHold f_X11_mustBeSo
  rw [h.ho, b1_s, has_hs (by omega), hs_hos (by omega), decide_eq_true hk, Bool.true_and]
  cases hoB (M 216) k <;> rfl
theorem C_to47 (h : Rl n M) : f_X9_copyFrom 47 35 M = some ((), cpT 47 35 M) ∧ TS n (M 216) (cpT 47 35 M) 47 ∧ ∀ z, (z < 47 ∨ 58 < z) → cpT 47 35 M z = M z :=
  ⟨T_copy T47 T35, h.ts.mv h.h8 (cpT_e (by decide)), fun z hz => cpT_F z (by omega)⟩
/-- what all bear together -/
def sumB (n : Nat) (W : Nat → Int32) : Int32 := sm (fun p => rCar n W (fun _ => 0) p) 8
theorem shK_off {by' each over : Int32} {b : Nat → Int32} {p : Nat} (h : hs by' p = false) : ∀ k, (shK by' each over b k).2 p = b p := by
  intro k
  induction k with
  | zero => rfl
  | succ k ih =>
    rw [shK_s]
    cases e : hs by' k
    · exact ih
    · show upd _ k _ p = _
      rw [upd_ne (fun z => by subst z; rw [h] at e; cases e)]
      exact ih
theorem shS_off {load by' : Int32} {b : Nat → Int32} {p : Nat} (h : hs by' p = false) : shS load by' b p = b p := by
  unfold shS
  cases decide (bc by' = 0)
  · exact shK_off h 8
  · rfl
theorem carP_off {act : Nat → Bool} {wt by' b : Nat → Int32} {p : Nat} (h : ∀ q, hs (by' q) p = false) : ∀ k, carP act wt by' b k p = b p := by
  intro k
  induction k with
  | zero => rfl
  | succ k ih =>
    rw [carP_s]
    cases act k
    · exact ih
    · show shS _ _ _ p = _
      rw [shS_off (h k)]
      exact ih
theorem carR_off {act : Nat → Nat → Bool} {wt by' b : Nat → Int32} {p : Nat} (h : ∀ q, hs (by' q) p = false) : ∀ r, carR act wt by' b r p = b p := by
  intro r
  induction r with
  | zero => rfl
  | succ r ih => rw [carR_s, carP_off h]; exact ih
theorem rCar_off {W : Nat → Int32} {b : Nat → Int32} {p : Nat} (hp : n ≤ p) (h8 : p < 8) : rCar n W b p = 0 := by
  unfold rCar car
  rw [carR_off fun q => rBy_out hp h8]
  exact if_pos h8
theorem T_sumB {W : Nat → Int32} {o : Nat} (h : TS n W M o) (ho : mTwB o = true) : f_X9_borneByAll o M = some (sumB n W) := by
  unfold f_X9_borneByAll f_X9_borneByAll_l4 sumB
  rw [gd_t ho]
  refine wh_8e (fun k => (sm (fun p => rCar n W (fun _ => 0) p) k, nI k)) _ rfl (fun k hk => ?_) ?_
  · show f_X9_borneByAll_4 o _ (nI k) M = _
    unfold f_X9_borneByAll_4
    rw [bif_f (i_8 hk), gd_t (i_in hk i_28), i_ix (by omega), i_1, h.2.2 k hk, sm_s]
  · show f_X9_borneByAll_4 o _ (nI 8) M = _
    unfold f_X9_borneByAll_4
    rw [bif_t i_88]
theorem M_sumB {W : Nat → Int32} (hn : W 0 = nI n) (h8 : n ≤ 8) (e : M 216 = W) : ∃ M2, f_X12_borneByAll M = some (sumB n W, M2) ∧ ∀ z, z ≠ 221 → M2 z = M z := by
  subst e
  unfold f_X12_borneByAll sumB
  rw [m_lays hn h8, b2_s, sm_n (n := n) (fun k h1 h2 => rCar_off h1 h2) h8]
  refine ⟨rs M 221 (rCar n (M 216) (M 221)), ?_, fun z hz => rs_ne hz⟩
  unfold f_X12_borneByAll_l6
  refine wh_ne (fun k => (sm (fun p => rCar n (M 216) (fun _ => 0) p) k, nI k)) n _ (by omega) rfl (fun k hk => ?_) ?_
  · show f_X12_borneByAll_6 _ (nI k) _ = _
    try dsimp only
    unfold f_X12_borneByAll_6
    rw [m_ppl (n := n) (by rw [rs_ne (by decide)]; exact hn), b1_s, bif_f (i_len hk h8), gd_t (i_in (show k < 8 by omega) i_28), i_ix (by omega), i_1, rs_at, rCar_in (b' := fun _ => 0) (by omega), sm_s]
  · show f_X12_borneByAll_6 _ (nI n) _ = _
    try dsimp only
    unfold f_X12_borneByAll_6
    rw [m_ppl (n := n) (by rw [rs_ne (by decide)]; exact hn), b1_s, bif_t (i_lee n)]
theorem M_brn {W : Nat → Int32} (hn : W 0 = nI n) (h8 : n ≤ 8) (e : M 216 = W) {k : Nat} (hk : k < 8) : ∃ M2, f_X12_borneBy (nI k) M = some (rCar n W (fun _ => 0) k, M2) ∧ ∀ z, z ≠ 221 → M2 z = M z := by
  subst e
  unfold f_X12_borneBy
  rw [m_lays hn h8, b2_s, gd_t (i_in hk i_28), i_ix (by omega), rs_at, rCar_in (b' := fun _ => 0) hk]
  exact ⟨_, rfl, fun z hz => rs_ne hz⟩
/-- the reference, thrown at once -/
theorem rq_thr {Mo : mM} {t : Int32} : RQ Mo (mst (mst Mo 215 0 0) 215 0 t) ∧ mst (mst Mo 215 0 0) 215 0 t 231 = Mo 231 ∧ mst (mst Mo 215 0 0) 215 0 t 215 0 = t :=
  ⟨(RQ.st215 (by decide)).tr (RQ.st215 (by decide)), by rw [mst_no (by decide), mst_no (by decide)], mst_oo _ _ _ _⟩
theorem rq_0 {Mo : mM} : RQ Mo (mst Mo 215 0 0) ∧ mst Mo 215 0 0 231 = Mo 231 ∧ mst Mo 215 0 0 215 0 = 0 := ⟨RQ.st215 (by decide), mst_no (by decide), mst_oo _ _ _ _⟩
def tIS (E : Nat) : Int32 := bif Nat.beq E 2 then 1 else bif Nat.beq E 4 then 2 else 0
/-- an act that has passed its tests -/
theorem OpT.act {fc : mM → Option ((Int32 ⊕ Nat) × mM)} {fm : mM → Option (Int32 × mM)} {tt : Nat → Int32} {M5 : mM} {W' : Nat → Int32} (h : Rl n M) (hq : CQ M M5) (hw : WF n W') (ht : TR n W' M5 47) (e2 : W' 2 = M 216 2) (el : ∀ k, 424 ≤ k → W' k = M 216 k) {fa : mM → Option Int32} {fb : mM → Option (Int32 × mM)} {v t : Int32}
    (ha : ∀ M6, TS n W' M6 35 → fa M6 = some v) (hb : ∀ Mx : mM, Mx 216 = W' → ∃ My, fb Mx = some (v, My) ∧ ∀ z, z ≠ 221 → My z = Mx z) (htt : tt 4 = t) (h0 : t ≠ 0)
    (hc : fc M = tb (f_X11_keepNext M5) (fun _ M6 => b1 (fa M6) (fun v => some (.inl v, M6))))
    (hm : ∀ Mo : mM, Mo 216 = M 216 → fm Mo = b2 (f_X12_cannot (rs (rs (mst Mo 215 0 0) 219 (va_cpy (M 216) (Mo 219) 0 0 424)) 216 W')) (fun v5 M5 => b2 (f_X12_throwsIf v5 t M5) (fun v6 M6 => bif v6 then some ((0 : Int32), M6) else fb M6))) : OpT M fc fm tt := by
  obtain ⟨M1, e1, ecq, e3⟩ := act_fin (t := t) h hq hw ht e2 el ha hb
  refine ⟨_, M1, hc.trans e1, fun Mo ho => ?_⟩
  have ho' : Mo 216 = M 216 := by rw [ho 216 (by decide), ecq]
  obtain ⟨v', M2, g1, g2, g3, g4, g5⟩ := e3 Mo ho (rs (rs (mst Mo 215 0 0) 219 (va_cpy (M 216) (Mo 219) 0 0 424)) 216 W') (rs_at _ _ _) (by rw [rs_ne (by decide), rs_ne (by decide), mst_oo]) (fun k hk => by rw [rs_ne (by decide), rs_at, pk_cpy_in (Nat.zero_le _) (by omega), Nat.zero_add, Nat.sub_zero]) (fun z h1 h2 h3 => by rw [rs_ne h2, rs_ne h3, mst_no h1]) (fun k hk => by rw [rs_ne (by decide), rs_ne (by decide), mst_nk hk])
  refine ⟨v', M2, (hm Mo ho').trans g1, g2, g3, ?_⟩
  unfold mR4
  cases hs : stB n W' (fun _ => 0)
  · exact ⟨by rw [htt]; exact g5 hs, by rw [htt]; exact h0⟩
  · exact g4 hs
theorem m_kp {Mo : mM} (e : Mo 216 = M 216) : f_X12_keepsAll (mst Mo 215 0 0) = some ((), rs (mst Mo 215 0 0) 219 (va_cpy (M 216) (Mo 219) 0 0 424)) := by
  rw [m_keeps, mst_no (show 216 ≠ 215 by decide), mst_no (show 219 ≠ 215 by decide), e]
theorem m_nb {Mo : mM} (h : Rl n M) (e : Mo 216 = M 216) {p : Int32} : f_X12_nobody p (mst Mo 215 0 0) = some (!isP n p) := M_nobody (by rw [mst_no (by decide), e]; exact h.hn) h.h8
theorem m_putW {Mo : mM} (e : Mo 216 = M 216) {X : Nat → Int32} {k : Nat} {v : Int32} : mst (rs (mst Mo 215 0 0) 219 X) 216 k v = rs (rs (mst Mo 215 0 0) 219 X) 216 (upd (M 216) k v) := by rw [mst_rs (rs (mst Mo 215 0 0) 219 X), rs_ne (show 216 ≠ 219 by decide), mst_no (show 216 ≠ 215 by decide), e]
/-- out -/
theorem Op_out (h : Rl n M) {p : Int32} : OpT M (f_X11_out p) (f_X12_out p) tIS := by
  have h8 := h.h8
  cases hP : isP n p
  · refine OpT.q h (r := .inr 2) (M1 := M) ?_ CQ.rf (fun Mo e hr => ⟨0, mst (mst Mo 215 0 0) 215 0 1, ?_, rq_thr.1, rq_thr.2.1, rq_thr.2.2, by decide⟩)
    · unfold f_X11_out
      rw [C_mustP h, hP]
      rfl
    · unfold f_X12_out
      rw [wr_e, b1_a (m_nb h e), hP, m_tIf]
      rfl
  · obtain ⟨k, hk, rfl⟩ := isP_of h8 hP
    cases hU : upB (M 216) k
    · refine OpT.q h (r := .inr 4) (M1 := M) ?_ CQ.rf (fun Mo e hr => ⟨0, mst (mst Mo 215 0 0) 215 0 2, ?_, rq_thr.1, rq_thr.2.1, rq_thr.2.2, by decide⟩)
      · unfold f_X11_out
        rw [C_mustP h, hP, cond_true, tb_l, C_mustUp h hk, hU]
        rfl
      · unfold f_X12_out f_X12_out_18
        rw [wr_e, b1_a (m_nb h e), hP, m_tIf, b2_s]
        simp only [Bool.not_true, cond_false, m_isUp (show k < 8 by omega), b1_s, mst_no (show 216 ≠ 215 by decide), e, hU, m_tIf, b2_s]
        rfl
    · obtain ⟨e1, t1, f1⟩ := C_to47 h
      obtain ⟨M5, e2, t2, f2⟩ := t1.1.dn (set := f_X11_bit (nI k)) h8 T47
      refine OpT.act (t := 2) h (CQ.hi fun z hz => by rw [f2 z (by omega) (by omega), f1 z (by omega)]) h.wf.dn t2 (wD_o (by decide)) (fun k h1 => wD_o (by omega)) (fa := f_X9_borneByAll 35) (fb := fun Mx => b2 (f_X12_borneByAll Mx) (fun v8 M8 => some (v8, M8))) (v := sumB n (wDown n (M 216) (f_X11_bit (nI k)))) (fun M6 t6 => T_sumB t6 T35) (fun Mx ex => ?_) rfl (by decide) ?_ (fun Mo e => ?_)
      · obtain ⟨M2, g1, g2⟩ := M_sumB (by rw [wD_o (by decide)]; exact h.hn) h8 ex
        exact ⟨M2, by rw [b2_a g1], g2⟩
      · unfold f_X11_out
        rw [C_mustP h, hP, cond_true, tb_l, C_mustUp h hk, hU, cond_true, tb_l, b2_a e1, b2_a e2]
      · unfold f_X12_out f_X12_out_18
        rw [wr_e, b1_a (m_nb h e), hP, m_tIf, b2_s]
        simp only [Bool.not_true, cond_false, m_isUp (show k < 8 by omega), b1_s, mst_no (show 216 ≠ 215 by decide), e, hU, cond_true, m_tIf, b2_s, m_kp e]
        have hn' : rs (mst Mo 215 0 0) 219 (va_cpy (M 216) (Mo 219) 0 0 424) 216 = M 216 := by rw [rs_ne (by decide), mst_no (by decide), e]
        rw [b2_a (m_comesOut (n := n) (by rw [hn']; exact h.hn) h8 hk), hn']
/-- one is woken, or falls asleep -/
theorem TR.sl {W : Nat → Int32} {o k : Nat} {N : mM} {x v : Int32} (h : TR n W N o) (h8 : n ≤ 8) (hk : k < n) (hx : x = slS n (upd W (8 + 7 * k + 3) v)) : TR n (upd W (8 + 7 * k + 3) v) (mst N o 2 x) o := by
  obtain ⟨-, a1, a2, a3, a4, a5, a6, a7, -⟩ := id h
  have ep : ∀ p c, c < 7 → c ≠ 3 → pv (upd W (8 + 7 * k + 3) v) p c = pv W p c := fun p c hc h3 => pv_un (by decide) hc (Or.inr h3)
  have eo : ∀ j, (j < 8 ∨ 64 ≤ j) → upd W (8 + 7 * k + 3) v j = W j := fun j hj => upd_ne (by omega)
  have eu : ∀ p, upB (upd W (8 + 7 * k + 3) v) p = upB W p := fun p => by unfold upB; rw [ep p 5 (by decide) (by decide)]
  refine h.up (mst_nk (by decide)) ?_ ?_ ?_ ?_ ?_ ?_ ?_ (fun p hp => ?_) (fun p hp hp8 => ?_) (mst_no (by omega)) (mst_no (by omega)) (eo 6 (by decide)) (fun j h1 h2 => eo j (by omega))
  · rw [mst_nk (by decide), a1]
    exact set_congr fun p hp => by rw [eu]
  · rw [mst_oo, hx]
  · rw [mst_nk (by decide), eo _ (by decide), a3]
  · rw [mst_nk (by decide), eo _ (by decide), a4]
  · rw [mst_nk (by decide), eo _ (by decide), a5]
  · rw [mst_nk (by decide), eo _ (by decide), a6]
  · rw [mst_nk (by decide), eo _ (by decide), a7]
  · rw [mst_no (by omega), mst_no (by omega), mst_no (by omega), mst_no (by omega), mst_no (by omega), mst_no (by omega), ep p 0 (by decide) (by decide), ep p 1 (by decide) (by decide), ep p 2 (by decide) (by decide), ep p 4 (by decide) (by decide), ep p 5 (by decide) (by decide), ep p 6 (by decide) (by decide), eu]
    exact h.pp hp
  · rw [mst_no (by omega), mst_no (by omega), mst_no (by omega)]
    exact h.p0 hp hp8
theorem WF.slp {W : Nat → Int32} {k : Nat} {v : Int32} (hw : WF n W) (hk : k < n) (hv : v = 0 ∨ v = 1) : WF n (upd W (8 + 7 * k + 3) v) := by
  obtain ⟨a0, a1, a2, a3, a4, a5, a6, a7⟩ := hw
  have ep : ∀ p c, c < 7 → c ≠ 3 → pv (upd W (8 + 7 * k + 3) v) p c = pv W p c := fun p c hc h3 => pv_un (by decide) hc (Or.inr h3)
  have eo : ∀ j, (j < 8 ∨ 64 ≤ j) → upd W (8 + 7 * k + 3) v j = W j := fun j hj => upd_ne (by omega)
  have eu : ∀ p, upB (upd W (8 + 7 * k + 3) v) p = upB W p := fun p => by unfold upB; rw [ep p 5 (by decide) (by decide)]
  refine ⟨by rw [eo _ (by decide)]; exact a0, a1, fun p hp => ?_, fun p hp => ?_, by rw [eo _ (by decide)]; exact a4, by rw [eo _ (by decide)]; exact a5, by rw [eo _ (by decide)]; exact a6, by rw [eo _ (by decide)]; exact a7⟩
  · obtain ⟨b1, b2, b3, b4, b5⟩ := a2 p hp
    rw [ep p 5 (by decide) (by decide), ep p 6 (by decide) (by decide)]
    refine ⟨?_, b2, b3, b4, fun q hq g => ?_⟩
    · rw [pv_upd (by decide) (by decide)]
      by_cases h : p = k
      · rw [if_pos ⟨h, rfl⟩]; exact hv
      · rw [if_neg (fun z => h z.1)]; exact b1
    · rw [ep q 5 (by decide) (by decide), eu]
      exact b5 q hq g
  · rw [ep p 0 (by decide) (by decide), ep p 1 (by decide) (by decide), ep p 2 (by decide) (by decide), ep p 4 (by decide) (by decide)]
    exact a3 p hp
theorem sl_0 {W : Nat → Int32} {k : Nat} (h8 : n ≤ 8) (hk : k < n) : slS n W &&& (f_X11_bit (nI k) ^^^ (-1 : Int32)) = slS n (upd W (8 + 7 * k + 3) 0) := S8.ext (S8.andl (S8.set _)) (S8.set _) fun j hj => by
  rw [hs_and, hs_nn (by omega), hs_bit (by omega) (by omega), hs_sls hj, hs_sls hj]
  unfold slB
  rw [pv_upd (by decide) (by decide)]
  by_cases h : j = k
  · subst h
    rw [if_pos ⟨rfl, rfl⟩, decide_eq_true (rfl : j = j), Bool.not_true, Bool.and_false]
    exact (Bool.and_false _).symm
  · rw [if_neg (fun z => h z.1), decide_eq_false (Ne.symm h), Bool.not_false, Bool.and_true]
theorem sl_1 {W : Nat → Int32} {k : Nat} (h8 : n ≤ 8) (hk : k < n) : slS n W ||| f_X11_bit (nI k) = slS n (upd W (8 + 7 * k + 3) 1) := S8.ext (S8.or (S8.set _) (S8.bit (by omega))) (S8.set _) fun j hj => by
  rw [hs_or, hs_bit (by omega) (by omega), hs_sls hj, hs_sls hj]
  unfold slB
  rw [pv_upd (by decide) (by decide)]
  by_cases h : j = k
  · subst h
    rw [if_pos ⟨rfl, rfl⟩, decide_eq_true (rfl : j = j), Bool.or_true, decide_eq_true hk]
    rfl
  · rw [if_neg (fun z => h z.1), decide_eq_false (Ne.symm h), Bool.or_false]
/-- wake -/
theorem Op_wake (h : Rl n M) {p : Int32} : OpT M (f_X11_wake p) (f_X12_wake p) tIS := by
  have h8 := h.h8
  cases hP : isP n p
  · refine OpT.q h (r := .inr 2) (M1 := M) ?_ CQ.rf (fun Mo e hr => ⟨0, mst (mst Mo 215 0 0) 215 0 1, ?_, rq_thr.1, rq_thr.2.1, rq_thr.2.2, by decide⟩)
    · unfold f_X11_wake
      rw [C_mustP h, hP]
      rfl
    · unfold f_X12_wake
      rw [wr_e, b1_a (m_nb h e), hP, m_tIf]
      rfl
  · obtain ⟨k, hk, rfl⟩ := isP_of h8 hP
    have hh : f_X11_has (M 35 2) (nI k) = slB (M 216) k := by rw [h.as, has_hs (by omega), hs_sls (by omega), decide_eq_true hk, Bool.true_and]
    cases hU : slB (M 216) k
    · refine OpT.q h (r := .inr 4) (M1 := M) ?_ CQ.rf (fun Mo e hr => ⟨0, mst (mst Mo 215 0 0) 215 0 2, ?_, rq_thr.1, rq_thr.2.1, rq_thr.2.2, by decide⟩)
      · unfold f_X11_wake f_X11_mustBeSo
        rw [C_mustP h, hP, cond_true, tb_l, hh, hU]
        rfl
      · unfold f_X12_wake f_X12_wake_18
        rw [wr_e, b1_a (m_nb h e), hP, m_tIf, b2_s]
        simp only [Bool.not_true, cond_false, m_isAs (show k < 8 by omega), b1_s, mst_no (show 216 ≠ 215 by decide), e, hU, m_tIf, b2_s]
        rfl
    · obtain ⟨e1, t1, f1⟩ := C_to47 h
      have t2 := t1.1.sl h8 hk (x := cpT 47 35 M 47 2 &&& (f_X11_bit (nI k) ^^^ (-1 : Int32))) (v := 0) (by rw [t1.1.2.2.1, sl_0 h8 hk])
      refine OpT.act (t := 2) h (CQ.hi fun z hz => by rw [mst_no (by omega), f1 z (by omega)]) (h.wf.slp hk (Or.inl rfl)) t2 (upd_ne (by omega)) (fun k h1 => upd_ne (by omega)) (fa := fun M7 => some (M7 42 k)) (fb := fun Mx => b2 (f_X12_borneBy (nI k) Mx) (fun v10 M10 => some (v10, M10))) (v := rCar n (upd (M 216) (8 + 7 * k + 3) 0) (fun _ => 0) k) (fun M6 t6 => by rw [show M6 42 k = M6 (35 + 7) k from rfl, t6.2.2 k (by omega)]) (fun Mx ex => by obtain ⟨M2, g1, g2⟩ := M_brn (k := k) (by rw [upd_ne (by omega)]; exact h.hn) h8 ex (by omega); exact ⟨M2, by rw [b2_a g1], g2⟩) rfl (by decide) ?_ (fun Mo e => ?_)
      · unfold f_X11_wake f_X11_mustBeSo
        rw [C_mustP h, hP, cond_true, tb_l, hh, hU, cond_true, tb_l, b2_a e1, wr_e]
        simp only [gd_t (i_in (show k < 8 by omega) i_28), i_ix (show k < 2 ^ 31 by omega), b1_s]
      · unfold f_X12_wake f_X12_wake_18
        rw [wr_e, b1_a (m_nb h e), hP, m_tIf, b2_s]
        simp only [Bool.not_true, cond_false, m_isAs (show k < 8 by omega), b1_s, mst_no (show 216 ≠ 215 by decide), e, hU, cond_true, m_tIf, b2_s, m_kp e, show (3 : Int32) = nI 3 from rfl, i_at, gd_t (i_in (show 8 + 7 * k + 3 < 2122 by omega) (by decide)), i_ix (show 8 + 7 * k + 3 < 2 ^ 31 by omega), wr_e, m_putW e]
end
