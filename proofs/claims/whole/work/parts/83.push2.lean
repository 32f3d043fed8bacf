/-! pushes, the op -/
section
variable {n : Nat} {M : mM}
theorem wi_bit {q : Nat} {s : Int32} (hq : q < 8) : wi (f_X11_bit (nI q)) s = hs s q := bool_iff (by
  rw [wi_iff (S8.bit hq)]
  constructor
  · intro h
    exact h q hq (by rw [hs_bit (by omega) (by omega)]; exact decide_eq_true rfl)
  · intro h j hj e
    rw [hs_bit (by omega) (by omega)] at e
    rw [← of_decide_eq_true e]
    exact h)
theorem stC_bit {W : Nat → Int32} {p q k : Nat} (hq : q < 8) : stC n W p (f_X11_bit (nI q)) k = hs (rcS n W (hoS n W) (s0S n W p) k) q := by
  unfold stC
  rw [wi_bit hq]
  cases c : decide (rcS n W (hoS n W) (s0S n W p) k = 0)
  · rfl
  · rw [of_decide_eq_true c, hs_0]; rfl
theorem M_push {N : mM} (hn : N 216 0 = nI n) (h8 : n ≤ 8) {p q : Nat} (hq : q < 8) : (∀ j, j < 8 → stC n (N 216) p (f_X11_bit (nI q)) j = true → (∀ i, i < j → stC n (N 216) p (f_X11_bit (nI q)) i = false) → f_X12_pushes_l29 (nI q) (s0S n (N 216) p) 0 N = some (nI j, N)) ∧ ((∀ i, i < 8 → stC n (N 216) p (f_X11_bit (nI q)) i = false) → f_X12_pushes_l29 (nI q) (s0S n (N 216) p) 0 N = some (-1, N)) := by
  have s8 : S8 (s0S n (N 216) p) := S8.andr (S8.set _)
  have st : ∀ k, k < 8 → stC n (N 216) p (f_X11_bit (nI q)) k = false → f_X12_pushes_29 (nI q) (rcS n (N 216) (hoS n (N 216)) (s0S n (N 216) p) k) (nI k) N = some (.inr (rcS n (N 216) (hoS n (N 216)) (s0S n (N 216) p) (k + 1), nI (k + 1))) := fun k hk hc => by
    rw [stC_bit hq] at hc
    unfold f_X12_pushes_29
    rw [bif_f (i_8 hk), mhas_hs (by omega), hc, cond_false, m_hos hn h8, b1_s, m_tc hn h8 (rcS_8 s8 k) ho_in, b1_s, i_1, rcS_s]
  unfold f_X12_pushes_l29
  constructor
  · intro j hj hc hb
    refine wh_ne (fun k => (rcS n (N 216) (hoS n (N 216)) (s0S n (N 216) p) k, nI k)) j _ (by omega) rfl (fun k hk => st k (by omega) (hb k hk)) ?_
    show f_X12_pushes_29 (nI q) (rcS n (N 216) (hoS n (N 216)) (s0S n (N 216) p) j) (nI j) N = _
    rw [stC_bit hq] at hc
    unfold f_X12_pushes_29
    rw [bif_f (i_8 hj), mhas_hs (by omega), hc, cond_true]
  · intro hb
    refine wh_ne (fun k => (rcS n (N 216) (hoS n (N 216)) (s0S n (N 216) p) k, nI k)) 8 _ (by decide) rfl (fun k hk => st k hk (hb k hk)) ?_
    show f_X12_pushes_29 (nI q) (rcS n (N 216) (hoS n (N 216)) (s0S n (N 216) p) 8) (nI 8) N = _
    unfold f_X12_pushes_29
    rw [bif_t i_88]
theorem Op_pushes (h : Rl n M) {p q : Int32} : OpT M (f_X11_pushes p q) (f_X12_pushes p q) tTwo := by
  have h8 := h.h8
  have hM : ∀ Mo : mM, Mo 216 = M 216 → f_X12_pushes p q Mo = f_X12_pushes_15 p q (!(isP n p && isP n q)) (mst Mo 215 0 0) := fun Mo e => by
    unfold f_X12_pushes f_X12_pushes_12
    rw [wr_e, b1_a (m_nb h e)]
    cases isP n p
    · rw [Bool.not_false, cond_true, Bool.false_and, Bool.not_false]
    · rw [Bool.not_true, cond_false, b1_a (m_nb h e)]
      cases isP n q
      · rw [Bool.not_false, cond_true, Bool.and_false, Bool.not_false]
      · rw [Bool.not_true, cond_false, Bool.and_true, Bool.not_true]
  have thr1 : (isP n p && isP n q) = false → f_X11_pushes p q M = some (.inr 2, M) → OpT M (f_X11_pushes p q) (f_X12_pushes p q) tTwo := fun hc e1 => by
    refine OpT.q h (r := .inr 2) (M1 := M) e1 CQ.rf (fun Mo e hr => ⟨0, mst (mst Mo 215 0 0) 215 0 1, ?_, rq_thr.1, rq_thr.2.1, rq_thr.2.2, by decide⟩)
    rw [hM Mo e, hc]
    unfold f_X12_pushes_15
    rw [m_tIf, b2_s, Bool.not_false, cond_true, cond_true]
  cases hP : isP n p
  · refine thr1 (by rw [hP]; rfl) ?_
    unfold f_X11_pushes
    rw [C_mustP h, hP, cond_false, tb_r]
  · cases hQ : isP n q
    · refine thr1 (by rw [hP, hQ]; rfl) ?_
      unfold f_X11_pushes
      rw [C_mustP h, hP, cond_true, tb_l, C_mustP h, hQ, cond_false, tb_r]
    · obtain ⟨k, hk, rfl⟩ := isP_of h8 hP
      obtain ⟨j, hj, rfl⟩ := isP_of h8 hQ
      have fin : ∀ v : Int32, f_X8_steps 35 (nI k) (f_X11_bit (nI j)) M = some v → (∀ N : mM, N 216 = M 216 → f_X12_pushes_l29 (nI j) (s0S n (M 216) k) 0 N = some (v, N)) → OpT M (f_X11_pushes (nI k) (nI j)) (f_X12_pushes (nI k) (nI j)) tTwo := fun v hc hm => by
        refine OpT.q h (r := .inl v) (M1 := M) ?_ CQ.rf (fun Mo e hr => ⟨v, mst Mo 215 0 0, ?_, rq_00, mst_no (by decide), rfl, mst_oo _ _ _ _⟩)
        · unfold f_X11_pushes
          rw [C_mustP h, hP, cond_true, tb_l, C_mustP h, hQ, cond_true, tb_l, hc, b1_s]
        · have e' : mst Mo 215 0 0 216 = M 216 := by rw [mst_no (by decide), e]
          rw [hM Mo e, hP, hQ]
          unfold f_X12_pushes_15
          rw [m_tIf, b2_s, Bool.and_true, Bool.not_true, cond_false, cond_false, m_hos (n := n) (by rw [e']; exact h.hn) h8, b1_s, e']
          exact hm _ e'
      have cs := C_steps h (p := k) (g := f_X11_bit (nI j)) (by omega)
      have ms : ∀ N : mM, N 216 = M 216 → _ := fun N e => M_push (n := n) (N := N) (p := k) (q := j) (by rw [e]; exact h.hn) h8 (by omega)
      rcases first_or (stC n (M 216) k (f_X11_bit (nI j))) 8 with ⟨i, hi, h1, h2⟩ | h2
      · exact fin _ (cs.1 i hi h1 h2) fun N e => by
          have := (ms N e).1
          rw [e] at this
          exact this i hi h1 h2
      · exact fin _ (cs.2 h2) fun N e => by
          have := (ms N e).2
          rw [e] at this
          exact this h2
end
