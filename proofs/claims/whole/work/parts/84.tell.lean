/-! tell -/
section
variable {n : Nat} {M : mM}
theorem tc_0 {W : Nat → Int32} {e : Int32} : tcS n W e 0 = 0 := S8.ext (S8.set _) S8.zero fun j hj => by
  unfold tcS tcB
  rw [hs_set8 hj, hs_0, Bool.false_or]
  have : exK (fun p => decide (p < n) && (hs 0 p && tch W p j)) 8 = false := by
    cases c : exK (fun p => decide (p < n) && (hs 0 p && tch W p j)) 8
    · rfl
    · obtain ⟨p, -, hq⟩ := exK_iff.mp c
      rw [hs_0, Bool.false_and, Bool.and_false] at hq
      cases hq
  rw [this, Bool.and_false]
theorem rc_0 {W : Nat → Int32} {e s : Int32} {k : Nat} (h : rcS n W e s k = 0) : ∀ m, k ≤ m → rcS n W e s m = 0 := by
  intro m
  induction m with
  | zero => intro hm; rw [show 0 = k by omega]; exact h
  | succ m ih =>
    intro hm
    by_cases hk : k = m + 1
    · rw [← hk]; exact h
    · rw [rcS_s, ih (by omega), tc_0]
theorem wi_ho {W : Nat → Int32} {p k : Nat} : wi (hoS n W) (rcS n W (hoS n W) (s0S n W p) k) = decide (rcS n W (hoS n W) (s0S n W p) k = hoS n W) := bool_iff (by
  have s8 : S8 (s0S n W p) := S8.andr (S8.set _)
  rw [wi_iff (a := hoS n W) (S8.set _), decide_eq_true_iff]
  constructor
  · intro h
    refine S8.ext (rcS_8 s8 k) (S8.set _) fun j hj => bool_iff ⟨rcS_in s0_in k j hj, h j hj⟩
  · intro h j hj e
    rw [h]
    exact e)
theorem M_tellOf {N : mM} (hn : N 216 0 = nI n) (h8 : n ≤ 8) {p : Nat} : (∀ j, j < 8 → stC n (N 216) p (hoS n (N 216)) j = true → (∀ i, i < j → stC n (N 216) p (hoS n (N 216)) i = false) → f_X12_tellOf (nI p) N = some (nI j)) ∧ ((∀ i, i < 8 → stC n (N 216) p (hoS n (N 216)) i = false) → f_X12_tellOf (nI p) N = some (-1)) := by
  have s8 : S8 (s0S n (N 216) p) := S8.andr (S8.set _)
  have st : ∀ k, k < 8 → stC n (N 216) p (hoS n (N 216)) k = false → rcS n (N 216) (hoS n (N 216)) (s0S n (N 216) p) k ≠ 0 → f_X12_tellOf_9 (rcS n (N 216) (hoS n (N 216)) (s0S n (N 216) p) k) (nI k) N = some (.inr (rcS n (N 216) (hoS n (N 216)) (s0S n (N 216) p) (k + 1), nI (k + 1))) := fun k hk hc h0 => by
    unfold stC at hc
    rw [decide_eq_false h0, Bool.not_false, Bool.true_and, wi_ho] at hc
    unfold f_X12_tellOf_9
    rw [bif_f (i_8 hk), decide_eq_false h0, cond_false, m_hos hn h8, b1_s, dn, hc, Bool.not_false, cond_true, b1_s, m_tc hn h8 (rcS_8 s8 k) ho_in, b1_s, i_1, rcS_s]
  unfold f_X12_tellOf
  rw [m_hos hn h8, b1_s]
  change (∀ j, j < 8 → _ → _ → f_X12_tellOf_l9 (s0S n (N 216) p) 0 N = _) ∧ (_ → f_X12_tellOf_l9 (s0S n (N 216) p) 0 N = _)
  unfold f_X12_tellOf_l9
  constructor
  · intro j hj hc hb
    have hj0 : rcS n (N 216) (hoS n (N 216)) (s0S n (N 216) p) j ≠ 0 := fun z => by
      unfold stC at hc
      rw [decide_eq_true z] at hc
      cases hc
    refine wh_ne (fun k => (rcS n (N 216) (hoS n (N 216)) (s0S n (N 216) p) k, nI k)) j _ (by omega) rfl (fun k hk => st k (by omega) (hb k hk) fun z => hj0 (rc_0 z j (by omega))) ?_
    show f_X12_tellOf_9 (rcS n (N 216) (hoS n (N 216)) (s0S n (N 216) p) j) (nI j) N = _
    unfold stC at hc
    rw [decide_eq_false hj0, Bool.not_false, Bool.true_and, wi_ho] at hc
    unfold f_X12_tellOf_9
    rw [bif_f (i_8 hj), decide_eq_false hj0, cond_false, m_hos hn h8, b1_s, dn, hc, Bool.not_true, cond_false]
  · intro hb
    rcases first_or (fun k => decide (rcS n (N 216) (hoS n (N 216)) (s0S n (N 216) p) k = 0)) 8 with ⟨j, hj, h1, h2⟩ | h2
    · refine wh_ne (fun k => (rcS n (N 216) (hoS n (N 216)) (s0S n (N 216) p) k, nI k)) j _ (by omega) rfl (fun k hk => st k (by omega) (hb k (by omega)) (of_decide_eq_false (h2 k hk))) ?_
      show f_X12_tellOf_9 (rcS n (N 216) (hoS n (N 216)) (s0S n (N 216) p) j) (nI j) N = _
      unfold f_X12_tellOf_9
      rw [bif_f (i_8 hj), h1, cond_true]
    · refine wh_ne (fun k => (rcS n (N 216) (hoS n (N 216)) (s0S n (N 216) p) k, nI k)) 8 _ (by decide) rfl (fun k hk => st k hk (hb k hk) (of_decide_eq_false (h2 k hk))) ?_
      show f_X12_tellOf_9 (rcS n (N 216) (hoS n (N 216)) (s0S n (N 216) p) 8) (nI 8) N = _
      unfold f_X12_tellOf_9
      rw [bif_t i_88]
/-- the same of both -/
theorem tell_v (h : Rl n M) {p : Nat} (hp : p < 8) : ∃ v, (v = -1 ∨ ∃ j, j < 8 ∧ v = nI j) ∧ f_X8_steps 35 (nI p) (hoS n (M 216)) M = some v ∧ ∀ N : mM, N 216 = M 216 → f_X12_tellOf (nI p) N = some v := by
  have cs := C_steps h (p := p) (g := hoS n (M 216)) hp
  have ms := fun (N : mM) (e : N 216 = M 216) => M_tellOf (n := n) (N := N) (p := p) (by rw [e]; exact h.hn) h.h8
  rcases first_or (stC n (M 216) p (hoS n (M 216))) 8 with ⟨i, hi, h1, h2⟩ | h2
  · refine ⟨nI i, Or.inr ⟨i, hi, rfl⟩, cs.1 i hi h1 h2, fun N e => ?_⟩
    have := (ms N e).1
    rw [e] at this
    exact this i hi h1 h2
  · refine ⟨-1, Or.inl rfl, cs.2 h2, fun N e => ?_⟩
    have := (ms N e).2
    rw [e] at this
    exact this h2
theorem Op_tell (h : Rl n M) {p : Int32} : OpT M (f_X11_tell p) (f_X12_tell p) tTwo := by
  have h8 := h.h8
  cases hP : isP n p
  · refine OpT.q h (r := .inr 2) (M1 := M) ?_ CQ.rf (fun Mo e hr => ⟨0, mst (mst Mo 215 0 0) 215 0 1, ?_, rq_thr.1, rq_thr.2.1, rq_thr.2.2, by decide⟩)
    · unfold f_X11_tell
      rw [C_mustP h, hP, cond_false, tb_r]
    · unfold f_X12_tell
      rw [wr_e, b1_a (m_nb h e), hP, m_tIf, b2_s, Bool.not_false, cond_true, cond_true]
  · obtain ⟨k, hk, rfl⟩ := isP_of h8 hP
    obtain ⟨v, -, v1, v2⟩ := tell_v h (p := k) (by omega)
    refine OpT.q h (r := .inl v) (M1 := M) ?_ CQ.rf (fun Mo e hr => ⟨v, mst Mo 215 0 0, ?_, rq_00, mst_no (by decide), rfl, mst_oo _ _ _ _⟩)
    · unfold f_X11_tell
      rw [C_mustP h, hP, cond_true, tb_l, h.ho, b1_s, v1, b1_s]
    · unfold f_X12_tell
      rw [wr_e, b1_a (m_nb h e), hP, m_tIf, b2_s, Bool.not_true, cond_false, cond_false, v2 _ (by rw [mst_no (by decide), e]), b1_s]
end
