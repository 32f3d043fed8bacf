/-! span, need, seed, image, back -/
section
variable {n : Nat} {M : mM}
def spW (n : Nat) (W : Nat → Int32) (m s : Nat) : Int32 := bc (upS n (hrsW n (upd W 7 (nI s)) true m))
def spB (most : Bool) (b v : Int32) : Int32 := bif decide (b = -1) then v else bif most then (bif decide (v ≤ b) then b else v) else (bif decide (b ≤ v) then b else v)
def spK (n : Nat) (W : Nat → Int32) (m : Nat) (most : Bool) : Nat → Int32
  | 0 => -1
  | k + 1 => spB most (spK n W m most k) (spW n W m (k + 1))
theorem spW_nI {W : Nat → Int32} {m s : Nat} : ∃ x, x ≤ 8 ∧ spW n W m s = nI x := ⟨_, cntK_le _ 8, bc_cnt (S8.set _)⟩
theorem spK_nI {W : Nat → Int32} {m : Nat} {most : Bool} : ∀ k, ∃ x, x ≤ 8 ∧ spK n W m most (k + 1) = nI x := by
  intro k
  induction k with
  | zero => exact spW_nI
  | succ k ih =>
    obtain ⟨x, hx, e⟩ := ih
    obtain ⟨y, hy, e2⟩ := spW_nI (n := n) (W := W) (m := m) (s := k + 1 + 1)
    show ∃ z, z ≤ 8 ∧ spB most (spK n W m most (k + 1)) (spW n W m (k + 1 + 1)) = nI z
    rw [e, e2]
    unfold spB
    cases decide (nI x = -1)
    · rw [cond_false]
      cases most
      · rw [cond_false]
        cases decide (nI x ≤ nI y)
        · exact ⟨y, hy, rfl⟩
        · exact ⟨x, hx, rfl⟩
      · rw [cond_true]
        cases decide (nI y ≤ nI x)
        · exact ⟨y, hy, rfl⟩
        · exact ⟨x, hx, rfl⟩
    · exact ⟨y, hy, rfl⟩
theorem sp_m1 {k : Nat} {W : Nat → Int32} {m : Nat} {most : Bool} : decide (spK n W m most k = -1) = !decide (0 ≤ spK n W m most k) := by
  cases k with
  | zero => rfl
  | succ k =>
    obtain ⟨x, hx, e⟩ := spK_nI (n := n) (W := W) (m := m) (most := most) k
    rw [e]
    have h1 : ¬ nI x = -1 := fun z => by
      have := nI_pos (n := x) (by omega)
      rw [z] at this
      exact this (by decide)
    rw [decide_eq_false h1, decide_eq_true (nI_pos' (by omega))]
    rfl
theorem i_6 {k : Nat} (h : k < 6) : decide ((6 : Int32) < nI (k + 1)) = false := by
  rw [show (6 : Int32) = nI 6 from rfl, i_lt (by decide) (by omega)]
  exact decide_eq_false (by omega)
theorem Op_span (h : Rl n M) {x : Int32} {most : Bool} : OpT M (f_X11_span x most) (f_X12_span x most) tOne := by
  have h8 := h.h8
  cases hI : inB 0 60 x
  · refine OpT.q h (r := .inr 0) (M1 := M) ?_ CQ.rf (fun Mo e hr => ⟨0, mst (mst Mo 215 0 0) 215 0 1, ?_, rq_thr.1, rq_thr.2.1, rq_thr.2.2, by decide⟩)
    · unfold f_X11_span
      rw [C_look, hI, cond_false, tb_r]
    · unfold f_X12_span
      rw [wr_e, M_look, hI, m_tIf, b2_s, Bool.not_false, cond_true, cond_true]
  · obtain ⟨m, hm, rfl⟩ := inB_60 (Or.inl rfl) hI
    have hC : ∃ M1, f_X11_span_l6 (nI m) most (-1) 1 M = some (.inl (spK n (M 216) m most 6), M1) ∧ ∀ z, z ≠ 22 → (z < 47 ∨ 58 < z) → M1 z = M z := by
      unfold f_X11_span_l6
      refine wh_V (fun k (q : Int32 × Int32 × mM) => q.1 = spK n (M 216) m most k ∧ q.2.1 = nI (k + 1) ∧ ∀ z, z ≠ 22 → (z < 47 ∨ 58 < z) → q.2.2 z = M z) _ _ 6 100000 _ ⟨rfl, rfl, fun _ _ _ => rfl⟩ (fun k hk q hq => ?_) (fun q hq => ?_) (by omega)
      · obtain ⟨q1, q2, M'⟩ := q
        obtain ⟨rfl, rfl, g3⟩ := hq
        dsimp only at g3
        have hr : Rl n M' := h.cq (CQ.nx fun z z1 z2 => g3 z z1 (by omega))
        have e216 : M' 216 = M 216 := g3 216 (by decide) (by decide)
        obtain ⟨e1, t1, f1⟩ := C_to47 hr
        have t2 := t1.seed (v := nI (k + 1)) h8
        have hL : LW (upd (M' 216) 7 (nI (k + 1))) (mst (cpT 47 35 M') 47 6 (nI (k + 1))) 17 := (hr.lw.eq2 (W' := upd (M' 216) 7 (nI (k + 1))) (upd_ne (by decide)) (fun j h1 _ => upd_ne (by omega))).rf fun j hj => by rw [mst_no (by omega), f1 _ (by omega)]
        obtain ⟨M1, a1, a2, a3⟩ := C_hours hr.wf.seed (dr := true) hm t2 hL L17 T47 (by decide)
        have ev : f_J6_bitCount_0f7a4 (M1 47 1) = spW n (M 216) m (k + 1) := by rw [show M1 47 1 = upS n (hrsW n (upd (M' 216) 7 (nI (k + 1))) true m) from a2.1.2.1, e216]; rfl
        refine ⟨(spK n (M 216) m most (k + 1), nI (k + 1 + 1), M1), ?_, rfl, rfl, fun z z1 z2 => by dsimp only; rw [a3 z (by omega) (by omega), mst_no (by omega), f1 z z2, g3 z z1 z2]⟩
        show f_X11_span_6 (nI m) most (spK n (M 216) m most k) (nI (k + 1)) M' = _
        have es : spK n (M 216) m most (k + 1) = spB most (spK n (M 216) m most k) (spW n (M 216) m (k + 1)) := rfl
        unfold f_X11_span_6
        rw [i_6 hk, cond_false, e1, b2_s, wr_e, a1, b2_s, ev, i_1, es]
        unfold spB
        cases decide (spK n (M 216) m most k = -1)
        · rw [cond_false, cond_false]
          cases most
          · rw [cond_false, cond_false]
            cases decide (spK n (M 216) m false k ≤ spW n (M 216) m (k + 1))
            · rw [cond_false, cond_false]
            · rw [cond_true, cond_true]
          · rw [cond_true, cond_true]
            cases decide (spW n (M 216) m (k + 1) ≤ spK n (M 216) m true k)
            · rw [cond_false, cond_false]
            · rw [cond_true, cond_true]
        · rw [cond_true, cond_true]
      · obtain ⟨q1, q2, M'⟩ := q
        obtain ⟨rfl, rfl, g3⟩ := hq
        dsimp only at g3
        refine ⟨M', ?_, g3⟩
        show f_X11_span_6 (nI m) most (spK n (M 216) m most 6) (nI (6 + 1)) M' = _
        unfold f_X11_span_6
        rw [show decide ((6 : Int32) < nI (6 + 1)) = true from rfl, cond_true]
    obtain ⟨M1, a1, a2⟩ := hC
    refine OpT.q h (r := .inl (spK n (M 216) m most 6)) (M1 := M1) ?_ (CQ.nx fun z z1 z2 => a2 z z1 (by omega)) (fun Mo e hr => ?_)
    · unfold f_X11_span
      rw [C_look, hI, cond_true, tb_l, a1]
    · generalize hN : mst Mo 215 0 0 = N
      have N216 : N 216 = M 216 := by rw [← hN, mst_no (by decide), e]
      have hM : ∃ M2, f_X12_span_l17 (nI m) most (-1) 1 (rs N 219 (va_cpy (M 216) (N 219) 0 0 424)) = some (spK n (M 216) m most 6, M2) ∧ M2 216 = M 216 ∧ (∀ z, z ≠ 215 → z ≠ 216 → z ≠ 219 → z ≠ 221 → z ≠ 222 → z ≠ 225 → z ≠ 226 → M2 z = N z) ∧ ∀ k, k ≠ 10 → k ≠ 11 → M2 215 k = N 215 k := by
        unfold f_X12_span_l17
        have key := wh_V (b := fun s : Int32 × Int32 × mM => f_X12_span_17 (nI m) most s.1 s.2.1 s.2.2) (fun k (q : Int32 × Int32 × mM) => q.1 = spK n (M 216) m most k ∧ q.2.1 = nI (k + 1) ∧ q.2.2 216 = M 216 ∧ q.2.2 219 = rs N 219 (va_cpy (M 216) (N 219) 0 0 424) 219 ∧ (∀ z, z ≠ 215 → z ≠ 216 → z ≠ 219 → z ≠ 221 → z ≠ 222 → z ≠ 225 → z ≠ 226 → q.2.2 z = N z) ∧ ∀ k, k ≠ 10 → k ≠ 11 → q.2.2 215 k = N 215 k) (spK n (M 216) m most 6) (fun M2 => M2 216 = M 216 ∧ (∀ z, z ≠ 215 → z ≠ 216 → z ≠ 219 → z ≠ 221 → z ≠ 222 → z ≠ 225 → z ≠ 226 → M2 z = N z) ∧ ∀ k, k ≠ 10 → k ≠ 11 → M2 215 k = N 215 k) 6 100000 (-1, 1, rs N 219 (va_cpy (M 216) (N 219) 0 0 424)) ⟨rfl, rfl, by dsimp only; rw [rs_ne (by decide), N216], rfl, fun z _ _ z3 _ _ _ _ => rs_ne z3, fun k _ _ => by dsimp only; rw [rs_ne (by decide)]⟩ (fun k hk q hq => ?_) (fun q hq => ?_) (by omega)
        · exact key
        · obtain ⟨q1, q2, M'⟩ := q
          obtain ⟨rfl, rfl, g1, g2, g3, g4⟩ := hq
          dsimp only at g1 g2 g3 g4
          have hL : LW (upd (M 216) 7 (nI (k + 1))) M 17 := h.lw.eq2 (upd_ne (by decide)) (fun j h1 _ => upd_ne (by omega))
          obtain ⟨M3, b1, b2, b3, b4⟩ := M_goes (h.wf.seed (v := nI (k + 1))) (calm := false) hm (M := rs M' 216 (upd (M 216) 7 (nI (k + 1)))) (rs_at _ _ _) hL
          have hn3 : M3 216 0 = nI n := by rw [b2]; exact ((h.wf.seed (v := nI (k + 1))).hrs hL m).1
          have c219 : M3 219 = rs N 219 (va_cpy (M 216) (N 219) 0 0 424) 219 := by rw [b3 219 (by decide) (by decide) (by decide) (by decide) (by decide) (by decide), rs_ne (by decide), g2]
          have ebk := m_back (m_219 c219) (fun j hj => by rw [b2, hrs_g h8 (by omega) (by omega) (by omega) (by omega) (by omega) m, upd_ne (by omega)])
          have ev : f_J6_bitCount_0f7a4 (upS n (M3 216)) = spW n (M 216) m (k + 1) := by rw [b2]; rfl
          refine ⟨(spK n (M 216) m most (k + 1), nI (k + 1 + 1), rs M3 216 (M 216)), ?_, rfl, rfl, by (dsimp only; exact rs_at _ _ _), by dsimp only; rw [rs_ne (by decide), c219], fun z z1 z2 z3 z4 z5 z6 z7 => by dsimp only; rw [rs_ne z2, b3 z z1 z2 z4 z5 z6 z7, rs_ne z2, g3 z z1 z2 z3 z4 z5 z6 z7], fun j j1 j2 => by dsimp only; rw [rs_ne (by decide), b4 j j1 j2, rs_ne (by decide), g4 j j1 j2]⟩
          show f_X12_span_17 (nI m) most (spK n (M 216) m most k) (nI (k + 1)) M' = _
          have es : spK n (M 216) m most (k + 1) = spB most (spK n (M 216) m most k) (spW n (M 216) m (k + 1)) := rfl
          have ew : mst M' 216 7 (nI (k + 1)) = rs M' 216 (upd (M 216) 7 (nI (k + 1))) := by rw [mst_rs, g1]
          unfold f_X12_span_17
          rw [i_6 hk, cond_false, wr_e, show ix (7 : Int32) = 7 from rfl, ew, b1, b2_s, m_ups hn3 h8, b1_s, ebk, b2_s, ev, i_1, es]
          unfold spB
          rw [sp_m1]
          cases decide (0 ≤ spK n (M 216) m most k)
          · rw [cond_false, Bool.not_false, cond_true]
          · rw [cond_true, Bool.not_true, cond_false]
            cases most
            · rw [cond_false, cond_false, mMin_b]
            · rw [cond_true, cond_true, mMax_b]
        · obtain ⟨q1, q2, M'⟩ := q
          obtain ⟨rfl, rfl, g1, g2, g3, g4⟩ := hq
          dsimp only at g1 g2 g3 g4
          refine ⟨M', ?_, g1, g3, g4⟩
          show f_X12_span_17 (nI m) most (spK n (M 216) m most 6) (nI (6 + 1)) M' = _
          unfold f_X12_span_17
          rw [show decide ((6 : Int32) < nI (6 + 1)) = true from rfl, cond_true]
      obtain ⟨M2, b1, b2, b3, b4⟩ := hM
      have eq2 : rs M2 216 (M 216) = M2 := by rw [← b2, rs_self]
      obtain ⟨d1, d2, d3⟩ := rq_nx (M := M) hN.symm e b3 b4
      rw [eq2] at d1 d2 d3
      refine ⟨_, M2, ?_, d1, d2, rfl, d3⟩
      unfold f_X12_span
      rw [wr_e, hN, M_look, hI, m_tIf, b2_s, Bool.not_true, cond_false, cond_false, m_kp2 N216, b2_s, b1]
/-- seed -/
theorem Op_seed (h : Rl n M) {v : Int32} : OpA M (f_X11_seed v) (f_X12_seed v) := by
  have h8 := h.h8
  have e6 : M 35 6 = M 216 7 := h.tr.2.2.2.2.2.2.1
  refine ⟨M 35 6, mst M 35 6 v, mst (mst (mst M 35 6 v) 215 0 0) 216 7 v, rfl, ?_, n, ?_⟩
  · unfold f_X12_seed
    rw [wr_e, wr_e, show ix (7 : Int32) = 7 from rfl, mst_no (show 216 ≠ 215 by decide), mst_no (show 216 ≠ 35 by decide), e6]
  · have e216 : mst (mst (mst M 35 6 v) 215 0 0) 216 7 v 216 = upd (M 216) 7 v := by rw [mst_at, mst_no (by decide), mst_no (by decide)]
    have ez : ∀ z, z ≠ 35 → z ≠ 215 → z ≠ 216 → mst (mst (mst M 35 6 v) 215 0 0) 216 7 v z = M z := fun z z1 z2 z3 => by rw [mst_no z3, mst_no z2, mst_no z1]
    have e5 : ∀ k, k ≠ 0 → mst (mst (mst M 35 6 v) 215 0 0) 216 7 v 215 k = M 215 k := fun k hk => by rw [mst_no (by decide), mst_nk hk, mst_no (by decide)]
    have t : TS n (upd (M 216) 7 v) (mst (mst (mst M 35 6 v) 215 0 0) 216 7 v) 35 := (h.ts.seed h8).in216 h8 fun z z1 z2 => by rw [mst_no (by omega), mst_no (by omega)]
    obtain ⟨x, c, hC, hM⟩ := h.ps.out
    refine ⟨by rw [e216]; exact h.wf.seed, by rw [e216, eqP_7.st]; exact h.st, by rw [e216]; exact t, ?_, ?_, ?_, ?_⟩
    · rw [e216]
      exact (h.lw.eq2 (upd_ne (by decide)) (fun j h1 _ => upd_ne (by omega))).rf fun j hj => ez _ (by omega) (by omega) (by omega)
    · exact h.tp.mv (ez _ (by decide) (by decide) (by decide)) (ez _ (by decide) (by decide) (by decide)) (ez _ (by decide) (by decide) (by decide)) (e5 _ (by decide)) (e5 _ (by decide))
    · exact h.im.mv (by rw [ez _ (by decide) (by decide) (by decide)]) (e5 _ (by decide)) (ez _ (by decide) (by decide) (by decide)) (fun z z1 z2 => ez z (by omega) (by omega) (by omega)) (fun z z1 z2 => ez z (by omega) (by omega) (by omega))
    · exact Ps.mk (Mc := mst (mst (mst M 35 6 v) 215 0 0) 216 7 v) (Mm := M) (hC.mv fun z hz => ez z (by omega) (by omega) (by omega)) hM (fun z _ => rfl) (e5 _ (by decide)) (ez _ (by decide) (by decide) (by decide)) (by rw [e216, upd_ne (by decide)])
/-- need -/
theorem inB_8 {x : Int32} (h : inB 0 8 x = true) : ∃ m, m ≤ 8 ∧ x = nI m := by
  unfold inB at h
  rw [Bool.and_eq_true, ← dn, ← dn] at h
  exact nI_of2 (M := 8) (n := 8) rfl (of_decide_eq_true h.1) (Int32.not_lt.mp (of_decide_eq_true h.2))
theorem Op_need (h : Rl n M) {v : Int32} : OpT M (f_X11_need v) (f_X12_need v) tOne := by
  have h8 := h.h8
  have hC : f_X11_need v M = f_X11_need_8 v (inB 0 8 v) M := by
    unfold f_X11_need f_X11_need_7 inB
    cases decide (v < 0)
    · cases decide ((8 : Int32) < v)
      · rw [cond_false, cond_false]; rfl
      · rw [cond_false, cond_true]; rfl
    · rw [cond_true]; rfl
  have hM : ∀ Mo, f_X12_need v Mo = f_X12_need_12 v (!inB 0 8 v) (mst Mo 215 0 0) := fun Mo => by
    unfold f_X12_need
    rw [wr_e, in_B]
    cases inB 0 8 v
    · rw [cond_false, Bool.not_false]
    · rw [cond_true, Bool.not_true]
  cases hI : inB 0 8 v
  · refine OpT.q h (r := .inr 0) (M1 := M) ?_ CQ.rf (fun Mo e hr => ⟨0, mst (mst Mo 215 0 0) 215 0 1, ?_, rq_thr.1, rq_thr.2.1, rq_thr.2.2, by decide⟩)
    · rw [hC, hI]
      unfold f_X11_need_8 f_X11_mustBeOne
      rw [cond_false, tb_r]
    · rw [hM, hI]
      unfold f_X12_need_12
      rw [m_tIf, b2_s, Bool.not_false, cond_true, cond_true]
  · obtain ⟨m, hm, rfl⟩ := inB_8 hI
    obtain ⟨y, c, hCp, hMp⟩ := h.ps.out
    obtain ⟨M1, a1, a2, a3⟩ := C_remember hCp h.wf h.st h.ts rfl
    have e5 : M 35 5 = M 216 5 := h.tr.2.2.2.2.2.1
    have eW : eqP (M 216) (upd (M 216) 5 (nI m)) := fun p c hp hc => pv_uo hp hc (by decide)
    have hw : WF n (upd (M 216) 5 (nI m)) := h.wf.hd eW (upd_ne (by decide)) (by rw [upd_ne (by decide)]; exact h.wf.2.2.2.2.1) (by rw [upd_ne (by decide)]; exact h.wf.2.2.2.2.2.1) (by rw [upd_ne (by decide)]; exact h.wf.2.2.2.2.2.2.1) ⟨m, hm, upd_at _ _ _⟩
    have t1 := h.ts.in216 (M' := M1) h8 fun z z1 z2 => a3 z (by omega) (by omega)
    obtain ⟨-, -, -, b3, b4, b5, b6, b7, -⟩ := id t1.1
    have t2 : TS n (upd (M 216) 5 (nI m)) (mst M1 35 5 (nI m)) 35 := t1.hd h8 eW (mst_nk (by decide)) (mst_nk (by decide)) (mst_nk (by decide)) (by rw [mst_nk (by decide), upd_ne (by decide)]; exact b3) (by rw [mst_nk (by decide), upd_ne (by decide)]; exact b4) (by rw [mst_oo, upd_at]) (by rw [mst_nk (by decide), upd_ne (by decide)]; exact b6) (by rw [mst_nk (by decide), upd_ne (by decide)]; exact b7) (mst_nk (by decide)) (fun z z1 z2 => mst_no (by omega)) (upd_ne (by decide)) (fun k h1 h2 => upd_ne (by omega))
    refine ⟨.inl (M 35 5), mst M1 35 5 (nI m), ?_, fun Mo ho => ?_⟩
    · rw [hC, hI]
      unfold f_X11_need_8 f_X11_mustBeOne
      rw [cond_true, tb_l, a1, b2_s, wr_e]
    · have ei : ∀ z, 215 ≤ z → z ≠ 231 → Mo z = M z := fun z h1 h2 => by rw [ho z h2, mst_no (by omega), a3 z (by omega) (by omega)]
      generalize hN : mst Mo 215 0 0 = N
      have N216 : N 216 = M 216 := by rw [← hN, mst_no (by decide), ei 216 (by decide) (by decide)]
      have N7 : N 215 7 = M 215 7 := by rw [← hN, mst_nk (by decide), ei 215 (by decide) (by decide)]
      have N220 : N 220 = M 220 := by rw [← hN, mst_no (by decide), ei 220 (by decide) (by decide)]
      obtain ⟨M3, c1, c2, c3, c4⟩ := m_remembers (M := rs N 219 (va_cpy (M 216) (N 219) 0 0 424)) hCp.2.1 (hMp.mv (by rw [rs_ne (by decide), N7]) (by rw [rs_ne (by decide), N220]))
      have M3216 : M3 216 = M 216 := by rw [c3 216 (by decide) (by decide), rs_ne (by decide), N216]
      have e4 : ∀ z, z ≠ 215 → z ≠ 216 → z ≠ 219 → z ≠ 220 → mst M3 216 5 (nI m) z = Mo z := fun z z1 z2 z3 z4 => by rw [mst_no z2, c3 z z1 z4, rs_ne z3, ← hN, mst_no z1]
      have e6 : ∀ k, k ≠ 0 → k ≠ 7 → mst M3 216 5 (nI m) 215 k = M 215 k := fun k k1 k2 => by rw [mst_no (by decide), c4 k k2, rs_ne (by decide), ← hN, mst_nk k1, ei 215 (by decide) (by decide)]
      refine ⟨M 216 5, mst M3 216 5 (nI m), ?_, e4 231 (by decide) (by decide) (by decide) (by decide), ⟨n, ?_⟩, e5.symm, ?_⟩
      · rw [hM, hI, hN]
        unfold f_X12_need_12
        rw [Bool.not_true, m_tIf, b2_s, cond_false, cond_false, m_kp2 N216, b2_s, c1, b2_s, wr_e, show ix (5 : Int32) = 5 from rfl, M3216]
      · have hps : PsM (mst M3 216 5 (nI m)) (min 12 (c + 1)) (PsV (M 216) (pW M c)) := by
          refine (c2.mv (by rw [mst_no (by decide)]) (mst_no (by decide))).cg fun j hj k hk => ?_
          match j with
          | 0 =>
            show M 216 k = rs N 219 _ 219 k
            rw [rs_at, pk_cpy_in (Nat.zero_le _) (by omega), Nat.zero_add, Nat.sub_zero]
          | j + 1 => rfl
        refine h.act hw (by rw [eW.st]; exact h.st) t2 (a2.mv fun z hz => mst_no (by omega)) hps (fun z hz => ?_) (by rw [mst_at, M3216]) (upd_ne (by decide)) (fun k k1 _ => upd_ne (by omega)) (fun z z1 z2 z3 => ?_) (fun z hz => ?_) (fun k hk => e6 k (by omega) (by omega))
        · rw [e4 z (by omega) (by omega) (by omega) (by omega), ho z (by omega)]
        · by_cases h35 : z = 35
          · omega
          · rw [mst_no h35, a3 z z1 (by omega)]
        · rw [e4 z (by omega) (by omega) (by omega) (by omega), ei z (by omega) (by omega)]
      · rw [mst_no (by decide), c4 0 (by decide), rs_ne (by decide), ← hN, mst_oo]
/-- the image is kept -/
theorem Op_image (h : Rl n M) : OpA M f_X11_image f_X12_image := by
  have h8 := h.h8
  have L29 : mLwB 29 = true := by decide
  have f1 : ∀ z, (z < 59 ∨ 70 < z) → cpT 59 35 M z = M z := fun z hz => cpT_F z (by omega)
  have b17 : mIsB (cpT 59 35 M 17 0) = true := by rw [f1 17 (by decide)]; exact h.lw.isb
  have e1 : f_X11_image M = some ((), mst (cpL 29 17 (cpT 59 35 M)) 0 11 1) := by
    unfold f_X11_image
    rw [T_copy T59 T35, b2_s, L_copy L29 L17 b17, b2_s, wr_e]
  generalize hM1 : mst (cpL 29 17 (cpT 59 35 M)) 0 11 1 = M1 at e1
  have f2 : ∀ z, z ≠ 0 → (z < 29 ∨ 33 < z) → (z < 59 ∨ 70 < z) → M1 z = M z := fun z z1 z2 z3 => by rw [← hM1, mst_no z1, cpL_F (by omega), f1 z z3]
  have t59 : TS n (M 216) M1 59 := (h.ts.mv h8 (cpT_e (a := 59) (b := 35) (by decide))).in216 h8 fun z z1 z2 => by rw [← hM1, mst_no (by omega), cpL_F (by omega)]
  have l29 : LW (M 216) M1 29 := ((h.lw.rf (M' := cpT 59 35 M) fun j hj => f1 _ (by omega)).cp (a := 29) (by decide)).rf fun j hj => by rw [← hM1, mst_no (by omega)]
  have e2 : f_X12_image M1 = some ((), mst (rs (mst M1 215 0 0) 217 (va_cpy (M 216) (M 217) 0 0 1273)) 215 6 1) := by
    unfold f_X12_image f_X12_image_l5
    rw [wr_e, wh_cpG (M := mst M1 215 0 0) (p := 216) (q := 217) (off := 0) (src := 0) (N := 1273) (fun M' => ((), mst M' 215 6 1)) (by decide) (by decide) (by decide) (fun k hk M' e => ?_) (fun M' e => rfl), mst_no (show 216 ≠ 215 by decide), mst_no (show 217 ≠ 215 by decide), f2 216 (by decide) (by decide) (by decide), f2 217 (by decide) (by decide) (by decide)]
    show f_X12_image_5 (nI k) M' = _
    unfold f_X12_image_5
    rw [show (1273 : Int32) = nI 1273 from rfl, bif_f (i_lit (by decide) hk), gd_t (i_in (by omega) (by decide)), gd_t (i_in hk (by decide)), i_ix (by omega), i_1, Nat.zero_add, wr_e]
  have ez : ∀ z, z ≠ 215 → z ≠ 217 → mst (rs (mst M1 215 0 0) 217 (va_cpy (M 216) (M 217) 0 0 1273)) 215 6 1 z = M1 z := fun z z1 z2 => by rw [mst_no z1, rs_ne z2, mst_no z1]
  have e5 : ∀ k, k ≠ 0 → k ≠ 6 → mst (rs (mst M1 215 0 0) 217 (va_cpy (M 216) (M 217) 0 0 1273)) 215 6 1 215 k = M 215 k := fun k k1 k2 => by rw [mst_nk k2, rs_ne (by decide), mst_nk k1, f2 215 (by decide) (by decide) (by decide)]
  have e217 : ∀ k, k < 1273 → mst (rs (mst M1 215 0 0) 217 (va_cpy (M 216) (M 217) 0 0 1273)) 215 6 1 217 k = M 216 k := fun k hk => by rw [mst_no (by decide), rs_at, pk_cpy_in (Nat.zero_le _) (by omega), Nat.zero_add, Nat.sub_zero]
  have e66 : mst (rs (mst M1 215 0 0) 217 (va_cpy (M 216) (M 217) 0 0 1273)) 215 6 1 215 6 = 1 := mst_oo _ _ _ _
  refine ⟨(), M1, _, e1, e2, n, ?_⟩
  generalize mst (rs (mst M1 215 0 0) 217 (va_cpy (M 216) (M 217) 0 0 1273)) 215 6 1 = M2 at ez e5 e217 e66 ⊢
  have e216 : M2 216 = M 216 := by rw [ez _ (by decide) (by decide), f2 216 (by decide) (by decide) (by decide)]
  have eW : eqW (M 216) (M2 217) := fun k hk => (e217 k (by omega)).symm
  obtain ⟨x, c, hC, hMp⟩ := h.ps.out
  refine ⟨by rw [e216]; exact h.wf, by rw [e216]; exact h.st, by rw [e216]; exact h.ts.in216 h8 fun z z1 z2 => by rw [ez z (by omega) (by omega), f2 z (by omega) (by omega) (by omega)], by rw [e216]; exact h.lw.rf fun j hj => by rw [ez _ (by omega) (by omega), f2 _ (by omega) (by omega) (by omega)], ?_, Or.inr ⟨?_, e66, n, h.wf.eq eW, by rw [← eW.st]; exact h.st, (t59.eq eW h8).in216 h8 fun z z1 z2 => ez z (by omega) (by omega), (l29.eq e217).rf fun j hj => ez _ (by omega) (by omega)⟩, ?_⟩
  · exact h.tp.mv (by rw [ez _ (by decide) (by decide), f2 1 (by decide) (by decide) (by decide)]) (by rw [ez _ (by decide) (by decide), f2 2 (by decide) (by decide) (by decide)]) (by rw [ez _ (by decide) (by decide), f2 223 (by decide) (by decide) (by decide)]) (e5 _ (by decide) (by decide)) (e5 _ (by decide) (by decide))
  · rw [ez 0 (by decide) (by decide), ← hM1, mst_oo]
  · exact Ps.mk (Mc := M2) (Mm := M) (hC.mv fun z hz => by rw [ez z (by omega) (by omega), f2 z (by omega) (by omega) (by omega)]) hMp (fun z _ => rfl) (e5 _ (by decide) (by decide)) (by rw [ez 220 (by decide) (by decide), f2 220 (by decide) (by decide) (by decide)]) (by rw [e216])
/-- back to the image -/
theorem Op_back (h : Rl n M) : OpA M f_X11_back f_X12_back := by
  have h8 := h.h8
  rcases h.im with ⟨i1, i2⟩ | ⟨i1, i2, n', i3, i4, i5, i6⟩
  · refine ⟨false, M, mst M 215 0 0, ?_, ?_, n, h.mq (RQ.st215 (by decide))⟩
    · unfold f_X11_back
      rw [i1]
      rfl
    · unfold f_X12_back
      rw [wr_e, mst_nk (show 6 ≠ 0 by decide), i2]
      rfl
  · have f1 : ∀ z, (z < 35 ∨ 46 < z) → cpT 35 59 M z = M z := fun z hz => cpT_F z (by omega)
    have L29 : mLwB 29 = true := by decide
    have b29 : mIsB (cpT 35 59 M 29 0) = true := by rw [f1 29 (by decide)]; exact i6.isb
    have e1 : f_X11_back M = some (true, mst (cpL 17 29 (cpT 35 59 M)) 3 2 0) := by
      unfold f_X11_back f_X3_forget
      rw [i1, T_copy T35 T59, b2_s, L_copy L17 L29 b29, b2_s]
      rfl
    generalize hM1 : mst (cpL 17 29 (cpT 35 59 M)) 3 2 0 = M1 at e1
    have f2 : ∀ z, z ≠ 3 → (z < 17 ∨ 21 < z) → (z < 35 ∨ 46 < z) → M1 z = M z := fun z z1 z2 z3 => by rw [← hM1, mst_no z1, cpL_F (by omega), f1 z z3]
    have t35 : TS n' (M 217) M1 35 := (i5.mv i3.2.1 (cpT_e (a := 35) (b := 59) (by decide))).in216 i3.2.1 fun z z1 z2 => by rw [← hM1, mst_no (by omega), cpL_F (by omega)]
    have l17 : LW (M 217) M1 17 := ((i6.rf (M' := cpT 35 59 M) fun j hj => f1 _ (by omega)).cp (a := 17) (by decide)).rf fun j hj => by rw [← hM1, mst_no (by omega)]
    have e2 : f_X12_back M1 = some (true, mst (rs (mst M1 215 0 0) 216 (va_cpy (M 217) (M 216) 0 0 1273)) 215 7 0) := by
      unfold f_X12_back f_X12_back_l10
      rw [wr_e, mst_nk (show 6 ≠ 0 by decide), f2 215 (by decide) (by decide) (by decide), i2, show decide (¬ (1 : Int32) = 0) = true from rfl, cond_true, wh_cpG (M := mst M1 215 0 0) (p := 217) (q := 216) (off := 0) (src := 0) (N := 1273) (fun M' => (true, mst M' 215 7 0)) (by decide) (by decide) (by decide) (fun k hk M' e => ?_) (fun M' e => rfl), mst_no (show 216 ≠ 215 by decide), mst_no (show 217 ≠ 215 by decide), f2 216 (by decide) (by decide) (by decide), f2 217 (by decide) (by decide) (by decide)]
      show f_X12_back_10 (nI k) M' = _
      unfold f_X12_back_10
      rw [show (1273 : Int32) = nI 1273 from rfl, bif_f (i_lit (by decide) hk), gd_t (i_in hk (by decide)), gd_t (i_in (by omega) (by decide)), i_ix (by omega), i_1, Nat.zero_add, wr_e]
    have ez : ∀ z, z ≠ 215 → z ≠ 216 → mst (rs (mst M1 215 0 0) 216 (va_cpy (M 217) (M 216) 0 0 1273)) 215 7 0 z = M1 z := fun z z1 z2 => by rw [mst_no z1, rs_ne z2, mst_no z1]
    have e5 : ∀ k, k ≠ 0 → k ≠ 7 → mst (rs (mst M1 215 0 0) 216 (va_cpy (M 217) (M 216) 0 0 1273)) 215 7 0 215 k = M 215 k := fun k k1 k2 => by rw [mst_nk k2, rs_ne (by decide), mst_nk k1, f2 215 (by decide) (by decide) (by decide)]
    have e216 : ∀ k, k < 1273 → mst (rs (mst M1 215 0 0) 216 (va_cpy (M 217) (M 216) 0 0 1273)) 215 7 0 216 k = M 217 k := fun k hk => by rw [mst_no (by decide), rs_at, pk_cpy_in (Nat.zero_le _) (by omega), Nat.zero_add, Nat.sub_zero]
    have e77 : mst (rs (mst M1 215 0 0) 216 (va_cpy (M 217) (M 216) 0 0 1273)) 215 7 0 215 7 = 0 := mst_oo _ _ _ _
    refine ⟨true, M1, _, e1, e2, n', ?_⟩
    generalize mst (rs (mst M1 215 0 0) 216 (va_cpy (M 217) (M 216) 0 0 1273)) 215 7 0 = M2 at ez e5 e216 e77 ⊢
    have eW : eqW (M 217) (M2 216) := fun k hk => (e216 k (by omega)).symm
    obtain ⟨x, c, hC, hMp⟩ := h.ps.out
    have e0 : ∀ z, z ≠ 215 → z ≠ 216 → z ≠ 3 → (z < 17 ∨ 21 < z) → (z < 35 ∨ 46 < z) → M2 z = M z := fun z z1 z2 z3 z4 z5 => by rw [ez z z1 z2, f2 z z3 z4 z5]
    refine ⟨i3.eq eW, by rw [← eW.st]; exact i4, (t35.eq eW i3.2.1).in216 i3.2.1 fun z z1 z2 => ez z (by omega) (by omega), (l17.eq e216).rf fun j hj => ez _ (by omega) (by omega), ?_, ?_, ⟨x, 0, hC.1, by decide, ?_, ?_, e77, fun j hj => absurd hj (Nat.not_lt_zero j)⟩⟩
    · exact h.tp.mv (e0 1 (by decide) (by decide) (by decide) (by decide) (by decide)) (e0 2 (by decide) (by decide) (by decide) (by decide) (by decide)) (e0 223 (by decide) (by decide) (by decide) (by decide) (by decide)) (e5 _ (by decide) (by decide)) (e5 _ (by decide) (by decide))
    · exact h.im.mv (by rw [e0 0 (by decide) (by decide) (by decide) (by decide) (by decide)]) (e5 _ (by decide) (by decide)) (e0 217 (by decide) (by decide) (by decide) (by decide) (by decide)) (fun z z1 z2 => e0 z (by omega) (by omega) (by omega) (by omega) (by omega)) (fun z z1 z2 => e0 z (by omega) (by omega) (by omega) (by omega) (by omega))
    · rw [ez 3 (by decide) (by decide), ← hM1, mst_nk (by decide), cpL_F (by decide), f1 3 (by decide)]; exact hC.2.2.1
    · rw [ez 3 (by decide) (by decide), ← hM1, mst_oo]; rfl
end
