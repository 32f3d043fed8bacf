/-! rests -/
section
variable {n : Nat} {M : mM}
def rsX (w : Int32) (a : Int32) : Int32 := bif decide (-w < -w + 2) then a else a ||| f_X11_bit 1
theorem C_sec {k : Nat} (hk : k < 8) : f_X11_secondHas 0 0 (nI k) M = some (-(M 42 k / 10) + 2) ∧ f_X11_secondHas 0 1 (nI k) M = some (-(M 42 k / 10)) ∧ f_X11_secondHas 1 0 (nI k) M = some (-1) ∧ f_X11_secondHas 1 1 (nI k) M = some 0 := by
  have g : ∀ {α : Type} (x : Option α), gd (mIn (nI k) 8) x = x := fun x => gd_t (i_in hk i_28)
  have i : ix (nI k) = k := i_ix (by omega)
  refine ⟨?_, ?_, rfl, rfl⟩
  · unfold f_X11_secondHas f_X11_secondHas_5
    rw [show decide (¬ (0 : Int32) = 0) = false from rfl, cond_false, cond_true, g, i]
    rfl
  · unfold f_X11_secondHas f_X11_secondHas_5
    rw [show decide (¬ (0 : Int32) = 0) = false from rfl, cond_false, cond_true, g, i]
    rfl
theorem C_rests {k : Nat} (hk : k < 8) : f_X11_rests_l24 (nI k) 0 0 M = some (.inl (rsX (M 42 k / 10) 0), M) := by
  obtain ⟨s00, s01, s10, s11⟩ := C_sec (M := M) hk
  have in0 : f_X11_rests_l29 (nI k) 0 0 0 M = some (.inr (rsX (M 42 k / 10) 0, 1)) := by
    unfold f_X11_rests_l29
    refine wh_ne (fun j => match j with | 0 => ((0 : Int32), (0 : Int32)) | 1 => ((0 : Int32), (1 : Int32)) | _ => (rsX (M 42 k / 10) 0, (2 : Int32))) 2 _ (by decide) rfl (fun j hj => ?_) rfl
    match j, hj with
    | 0, _ =>
      show f_X11_rests_29 (nI k) 0 0 0 M = _
      unfold f_X11_rests_29 f_X11_rests_44
      rw [show decide ((2 : Int32) ≤ 0) = false from rfl, cond_false, show decide (f_X11_firstHas 0 0 < f_X11_firstHas ((1 : Int32) - 0) 0) = true from rfl, cond_true, s00, b1_s, show (1 : Int32) - 0 = 1 from rfl, s01, b1_s]
      unfold f_X11_rests_61
      cases decide (-(M 42 k / 10) + 2 < -(M 42 k / 10)) <;> rfl
    | 1, _ =>
      show f_X11_rests_29 (nI k) 0 0 1 M = _
      unfold f_X11_rests_29 f_X11_rests_44
      rw [show decide ((2 : Int32) ≤ 1) = false from rfl, cond_false, show decide (f_X11_firstHas 0 1 < f_X11_firstHas ((1 : Int32) - 0) 1) = false from rfl, cond_false, s01, b1_s, show (1 : Int32) - 1 = 0 from rfl, s00, b1_s]
      show _ = some (Sum.inr (rsX (M 42 k / 10) 0, (2 : Int32)))
      unfold f_X11_rests_61 rsX
      cases decide (-(M 42 k / 10) < -(M 42 k / 10) + 2) <;> rfl
  have in1 : ∀ x, f_X11_rests_l29 (nI k) 1 x 0 M = some (.inr (x, 2)) := fun x => by
    unfold f_X11_rests_l29
    refine wh_ne (fun j => match j with | 0 => (x, (0 : Int32)) | 1 => (x, (1 : Int32)) | _ => (x, (2 : Int32))) 2 _ (by decide) rfl (fun j hj => ?_) rfl
    match j, hj with
    | 0, _ =>
      show f_X11_rests_29 (nI k) x 1 0 M = _
      unfold f_X11_rests_29 f_X11_rests_44
      rw [show decide ((2 : Int32) ≤ 0) = false from rfl, cond_false, show decide (f_X11_firstHas 1 0 < f_X11_firstHas ((1 : Int32) - 1) 0) = false from rfl, cond_false, s10, b1_s, show (1 : Int32) - 0 = 1 from rfl, s11, b1_s]
      rfl
    | 1, _ =>
      show f_X11_rests_29 (nI k) x 1 1 M = _
      unfold f_X11_rests_29 f_X11_rests_44
      rw [show decide ((2 : Int32) ≤ 1) = false from rfl, cond_false, show decide (f_X11_firstHas 1 1 < f_X11_firstHas ((1 : Int32) - 1) 1) = true from rfl, cond_true, s11, b1_s, show (1 : Int32) - 1 = 0 from rfl, s10, b1_s]
      rfl
  unfold f_X11_rests_l24
  refine wh_ne (fun j => match j with | 0 => ((0 : Int32), (0 : Int32)) | 1 => (rsX (M 42 k / 10) 0, (1 : Int32)) | _ => (rsX (M 42 k / 10) 0, (2 : Int32))) 2 _ (by decide) rfl (fun j hj => ?_) rfl
  match j, hj with
  | 0, _ =>
    show f_X11_rests_24 (nI k) 0 0 M = _
    unfold f_X11_rests_24
    rw [show decide ((2 : Int32) ≤ 0) = false from rfl, cond_false, in0]
    rfl
  | 1, _ =>
    show f_X11_rests_24 (nI k) (rsX (M 42 k / 10) 0) 1 M = _
    unfold f_X11_rests_24
    rw [show decide ((2 : Int32) ≤ 1) = false from rfl, cond_false, in1]
    rfl
theorem M_rests {N : mM} {w : Int32} : f_X12_rests_l52 w 0 0 N = some (rsX w 0, N) := by
  have a01 : decide (f_X12_otherHas w 0 1 < f_X12_otherHas w 0 ((1 : Int32) - 1)) = decide (-w < -w + 2) := by
    have e1 : f_X12_otherHas w 0 1 = -w := Int32.zero_sub w
    have e2 : f_X12_otherHas w 0 ((1 : Int32) - 1) = -w + 2 := by
      show (2 : Int32) * (1 - (1 - 1)) - w = -w + 2
      rw [show (2 : Int32) * (1 - (1 - 1)) = 2 from rfl, Int32.sub_eq_add_neg, Int32.add_comm]
    rw [e1, e2]
  have in0 : f_X12_rests_l57 w 0 0 0 N = some (.inr (rsX w 0, 1)) := by
    unfold f_X12_rests_l57
    refine wh_ne (fun j => match j with | 0 => ((0 : Int32), (0 : Int32)) | 1 => ((0 : Int32), (1 : Int32)) | _ => (rsX w 0, (2 : Int32))) 2 _ (by decide) rfl (fun j hj => ?_) rfl
    match j, hj with
    | 0, _ =>
      show f_X12_rests_57 w 0 0 0 N = _
      unfold f_X12_rests_57
      rw [show decide ((2 : Int32) ≤ 0) = false from rfl, cond_false, show decide (f_X12_firstHas 0 0 < f_X12_firstHas ((1 : Int32) - 0) 0) = true from rfl, cond_true]
      rfl
    | 1, _ =>
      show f_X12_rests_57 w 0 0 1 N = _
      unfold f_X12_rests_57
      rw [show decide ((2 : Int32) ≤ 1) = false from rfl, cond_false, show decide (f_X12_firstHas 0 1 < f_X12_firstHas ((1 : Int32) - 0) 1) = false from rfl, cond_false, a01]
      show _ = some (Sum.inr (rsX w 0, (2 : Int32)))
      unfold rsX
      cases decide (-w < -w + 2) <;> rfl
  have in1 : ∀ x, f_X12_rests_l57 w 1 x 0 N = some (.inr (x, 2)) := fun x => by
    unfold f_X12_rests_l57
    refine wh_ne (fun j => match j with | 0 => (x, (0 : Int32)) | 1 => (x, (1 : Int32)) | _ => (x, (2 : Int32))) 2 _ (by decide) rfl (fun j hj => ?_) rfl
    match j, hj with
    | 0, _ =>
      show f_X12_rests_57 w x 1 0 N = _
      unfold f_X12_rests_57
      rw [show decide ((2 : Int32) ≤ 0) = false from rfl, cond_false, show decide (f_X12_firstHas 1 0 < f_X12_firstHas ((1 : Int32) - 1) 0) = false from rfl, cond_false, show decide (f_X12_otherHas w 1 0 < f_X12_otherHas w 1 ((1 : Int32) - 0)) = true from rfl, cond_true, b_or0]
      rfl
    | 1, _ =>
      show f_X12_rests_57 w x 1 1 N = _
      unfold f_X12_rests_57
      rw [show decide ((2 : Int32) ≤ 1) = false from rfl, cond_false, show decide (f_X12_firstHas 1 1 < f_X12_firstHas ((1 : Int32) - 1) 1) = true from rfl, cond_true, b_or0]
      rfl
  unfold f_X12_rests_l52
  refine wh_ne (fun j => match j with | 0 => ((0 : Int32), (0 : Int32)) | 1 => (rsX w 0, (1 : Int32)) | _ => (rsX w 0, (2 : Int32))) 2 _ (by decide) rfl (fun j hj => ?_) rfl
  match j, hj with
  | 0, _ =>
    show f_X12_rests_52 w 0 0 N = _
    unfold f_X12_rests_52
    rw [show decide ((2 : Int32) ≤ 0) = false from rfl, cond_false, in0]
    rfl
  | 1, _ =>
    show f_X12_rests_52 w (rsX w 0) 1 N = _
    unfold f_X12_rests_52
    rw [show decide ((2 : Int32) ≤ 1) = false from rfl, cond_false, in1]
    rfl
theorem Op_rests (h : Rl n M) {p q : Int32} : OpT M (f_X11_rests p q) (f_X12_rests p q) tIS := by
  have h8 := h.h8
  have hM : ∀ Mo : mM, Mo 216 = M 216 → f_X12_rests p q Mo = f_X12_rests_15 p q (!(isP n p && isP n q)) (mst Mo 215 0 0) := fun Mo e => by
    unfold f_X12_rests f_X12_rests_12
    rw [wr_e, b1_a (m_nb h e)]
    cases isP n p
    · rw [Bool.not_false, cond_true, Bool.false_and, Bool.not_false]
    · rw [Bool.not_true, cond_false, b1_a (m_nb h e)]
      cases isP n q
      · rw [Bool.not_false, cond_true, Bool.and_false, Bool.not_false]
      · rw [Bool.not_true, cond_false, Bool.and_true, Bool.not_true]
  have thr1 : (isP n p && isP n q) = false → f_X11_rests p q M = some (.inr 2, M) → OpT M (f_X11_rests p q) (f_X12_rests p q) tIS := fun hc e1 => by
    refine OpT.q h (r := .inr 2) (M1 := M) e1 CQ.rf (fun Mo e hr => ⟨0, mst (mst Mo 215 0 0) 215 0 1, ?_, rq_thr.1, rq_thr.2.1, rq_thr.2.2, by decide⟩)
    rw [hM Mo e, hc]
    unfold f_X12_rests_15
    rw [m_tIf, b2_s, Bool.not_false, cond_true, cond_true]
  cases hP : isP n p
  · refine thr1 (by rw [hP]; rfl) ?_
    unfold f_X11_rests
    rw [C_mustP h, hP, cond_false, tb_r]
  · cases hQ : isP n q
    · refine thr1 (by rw [hP, hQ]; rfl) ?_
      unfold f_X11_rests
      rw [C_mustP h, hP, cond_true, tb_l, C_mustP h, hQ, cond_false, tb_r]
    · obtain ⟨k, hk, rfl⟩ := isP_of h8 hP
      obtain ⟨j, hj, rfl⟩ := isP_of h8 hQ
      have e41 : M 41 k = pv (M 216) k 6 := (h.tr.pp hk).2.2.2.2.1
      have hC : f_X11_rests (nI k) (nI j) M = tb (some (bif hoB (M 216) k then Sum.inl () else Sum.inr 4, M)) (fun (_ : Unit) M14 => tb (f_X11_mustHold (nI j) M14) (fun _ M15 => gd (mIn (nI k) 8) (tb (f_X11_mustBeSo (f_X11_has (M15 41 (ix (nI k))) (nI j)) M15) (fun _ M18 => f_X11_rests_l24 (nI j) (0 : Int32) (0 : Int32) M18)))) := by
        unfold f_X11_rests
        rw [C_mustP h, hP, cond_true, tb_l, C_mustP h, hQ, cond_true, tb_l, C_mustHold h hk]
      have hM2 : ∀ Mo : mM, Mo 216 = M 216 → f_X12_rests (nI k) (nI j) Mo = f_X12_rests_37 (nI j) (!(hoB (M 216) k && (hoB (M 216) j && hs (pv (M 216) k 6) j))) (mst Mo 215 0 0) := fun Mo e => by
        have e' : mst Mo 215 0 0 216 = M 216 := by rw [mst_no (by decide), e]
        rw [hM Mo e, hP, hQ]
        unfold f_X12_rests_15 f_X12_rests_34
        rw [m_tIf, b2_s, Bool.and_true, Bool.not_true, cond_false, cond_false, m_holds (by omega), b1_s, e']
        cases hoB (M 216) k
        · rw [cond_false, Bool.false_and, Bool.not_false]
        · rw [cond_true, Bool.true_and, m_holds (by omega), b1_s, e']
          cases hoB (M 216) j
          · rw [cond_false, Bool.false_and, Bool.not_false]
          · rw [cond_true, Bool.true_and, show (6 : Int32) = nI 6 from rfl, m_of (by omega) (by decide), b1_s, e', mhas_hs (by omega)]
            cases hs (pv (M 216) k 6) j
            · rw [cond_false, Bool.not_false]
            · rw [cond_true, Bool.not_true]
      have thr2 : (hoB (M 216) k && (hoB (M 216) j && hs (pv (M 216) k 6) j)) = false → f_X11_rests (nI k) (nI j) M = some (.inr 4, M) → OpT M (f_X11_rests (nI k) (nI j)) (f_X12_rests (nI k) (nI j)) tIS := fun hc e1 => by
        refine OpT.q h (r := .inr 4) (M1 := M) e1 CQ.rf (fun Mo e hr => ⟨0, mst (mst Mo 215 0 0) 215 0 2, ?_, rq_thr.1, rq_thr.2.1, rq_thr.2.2, by decide⟩)
        rw [hM2 Mo e, hc]
        unfold f_X12_rests_37
        rw [m_tIf, b2_s, Bool.not_false, cond_true, cond_true]
      cases c1 : hoB (M 216) k
      · exact thr2 (by rw [c1]; rfl) (by rw [hC, c1, cond_false, tb_r])
      · cases c2 : hoB (M 216) j
        · exact thr2 (by rw [c1, c2]; rfl) (by rw [hC, c1, cond_true, tb_l, C_mustHold h hj, c2, cond_false, tb_r])
        · have hC2 : f_X11_rests (nI k) (nI j) M = tb (f_X11_mustBeSo (hs (pv (M 216) k 6) j) M) (fun _ M18 => f_X11_rests_l24 (nI j) (0 : Int32) (0 : Int32) M18) := by
            rw [hC, c1, cond_true, tb_l, C_mustHold h hj, c2, cond_true, tb_l, gd_t (i_in (by omega) i_28), i_ix (by omega), e41, has_hs (by omega)]
          cases c3 : hs (pv (M 216) k 6) j
          · exact thr2 (by rw [c1, c2, c3]; rfl) (by rw [hC2, c3]; rfl)
          · have e42 : M 42 j = rCar n (M 216) (fun _ => 0) j := h.ts.2.2 j (by omega)
            refine OpT.q h (r := .inl (rsX (M 42 j / 10) 0)) (M1 := M) ?_ CQ.rf (fun Mo e hr => ?_)
            · rw [hC2, c3]
              unfold f_X11_mustBeSo
              rw [cond_true, tb_l, C_rests (by omega)]
            · obtain ⟨M2, g1, g2⟩ := M_brn (W := M 216) (M := mst Mo 215 0 0) h.hn h8 (by rw [mst_no (by decide), e]) (k := j) (by omega)
              refine ⟨_, M2, ?_, rq_00.tr (RQ.of (fun z _ _ z3 _ _ => g2 z z3) fun q _ => by rw [g2 215 (by decide)]), by rw [g2 231 (by decide), mst_no (by decide)], rfl, by rw [g2 215 (by decide), mst_oo]⟩
              rw [hM2 Mo e, c1, c2, c3]
              unfold f_X12_rests_37
              rw [m_tIf, b2_s, Bool.and_true, Bool.and_true, Bool.not_true, cond_false, cond_false, b2_a g1, M_rests, e42]
end
