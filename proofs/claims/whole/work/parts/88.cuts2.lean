/-! cuts, the op -/
theorem uS_cg {f g : Nat → Nat → Nat} {m : Nat} (h : ∀ k j, k < m → j < m → f k j = g k j) : uS f m = uS g m := sN_cg fun k hk => sN_cg fun j hj => by rw [h k j hk hj]
theorem uS_add (f g : Nat → Nat → Nat) (m : Nat) : uS (fun k j => f k j + g k j) m = uS f m + uS g m := by
  unfold uS
  rw [← sN_add]
  refine sN_cg fun k _ => ?_
  rw [← sN_add]
  refine sN_cg fun j _ => ?_
  by_cases h : k < j
  · rw [if_pos h, if_pos h, if_pos h]
  · rw [if_neg h, if_neg h, if_neg h]
theorem uS_le {f : Nat → Nat → Nat} (h : ∀ k j, f k j ≤ 1) : uS f 8 ≤ 64 := by
  refine Nat.le_trans (sN_le (g := fun _ => 8) fun k _ => ?_) (Nat.le_of_eq rfl)
  refine Nat.le_trans (sN_le (g := fun _ => 1) fun j _ => ?_) (Nat.le_of_eq rfl)
  by_cases hk : k < j
  · rw [if_pos hk]; exact h k j
  · rw [if_neg hk]; exact Nat.zero_le 1
theorem bN_le (b : Bool) : bN b ≤ 1 := by cases b <;> decide
section
variable {n : Nat} {M : mM}
/-- all who hold but one -/
def otS (n : Nat) (W : Nat → Int32) (p : Nat) : Int32 := hoS n W &&& (f_X11_bit (nI p) ^^^ (-1 : Int32))
theorem hs_ot {W : Nat → Int32} {p j : Nat} (hp : p < 8) (hj : j < 8) : hs (otS n W p) j = (hs (hoS n W) j && !decide (p = j)) := by
  unfold otS
  rw [hs_and, hs_nn (by omega), hs_bit (by omega) (by omega)]
theorem ot_8 {W : Nat → Int32} {p : Nat} : S8 (otS n W p) := S8.andl (S8.set _)
theorem ot_in {W : Nat → Int32} {p : Nat} (hp : p < 8) : ∀ j, j < 8 → hs (otS n W p) j = true → j < n := fun j hj e => by
  rw [hs_ot hp hj, Bool.and_eq_true] at e
  exact ho_in j hj e.1
theorem ot_ho {W : Nat → Int32} {p : Nat} (hp : p < 8) : ∀ j, j < 8 → hs (otS n W p) j = true → hs (hoS n W) j = true := fun j hj e => by
  rw [hs_ot hp hj, Bool.and_eq_true] at e
  exact e.1
/-- a pair that is lost without p -/
def loB (n : Nat) (W : Nat → Int32) (p k j : Nat) : Bool := !decide (k = p) && (!decide (j = p) && (rch n W (hoS n W) 8 k j && !rch n W (otS n W p) 8 k j))
def loA (n : Nat) (W : Nat → Int32) (p k j : Nat) : Nat := bN (loB n W p k j)
theorem cu_sp {W : Nat → Int32} {p k j : Nat} (hp : p < 8) (hk : k < 8) (hj : j < 8) : cuA n W p (hoS n W) k j = cuA n W p (otS n W p) k j + loA n W p k j := by
  unfold cuA loA loB
  have hm := rch_mono (n := n) (W := W) (ot_ho (n := n) (W := W) hp) (m := 8) hk hj
  generalize rch n W (hoS n W) 8 k j = a at hm ⊢
  generalize rch n W (otS n W p) 8 k j = b at hm ⊢
  cases decide (k = p) <;> cases decide (j = p) <;> cases a <;> cases b <;> first | rfl | exact absurd (hm rfl) (by decide)
theorem cu_sy {W : Nat → Int32} {p : Nat} {e : Int32} (he : ∀ j, j < 8 → hs e j = true → j < n) : ∀ k j, k < 8 → j < 8 → cuA n W p e k j = cuA n W p e j k := fun k j hk hj => by
  unfold cuA
  rw [rch_sym he hk hj]
  cases decide (k = p) <;> cases decide (j = p) <;> rfl
theorem cu_u {W : Nat → Int32} {p : Nat} {e : Int32} (he : ∀ j, j < 8 → hs e j = true → j < n) : nI (dS (cuA n W p e) 8) / 2 = nI (uS (cuA n W p e) 8) := by
  have hb : uS (cuA n W p e) 8 ≤ 64 := uS_le fun k j => bN_le _
  rw [dS_u (cu_sy he) 8 (Nat.le_refl 8), show (2 : Int32) = nI 2 from rfl, pk_div (by omega) (by decide) (by decide), Nat.mul_div_cancel_left _ (by decide)]
theorem C_cuts_l (h : Rl n M) {p : Nat} (hp : p < 8) : f_X11_cuts_l24 (hoS n (M 216)) (otS n (M 216) p) 0 0 M = some (.inl (nI (uS (loA n (M 216) p) 8)), M) := by
  unfold f_X11_cuts_l24
  refine wh_8e (fun k => (nI (sN (fun i => sN (fun j => if i < j then loA n (M 216) p i j else 0) 8) k), nI k)) _ rfl (fun k hk => ?_) ?_
  · show f_X11_cuts_24 (hoS n (M 216)) (otS n (M 216) p) (nI (sN (fun i => sN (fun j => if i < j then loA n (M 216) p i j else 0) 8) k)) (nI k) M = some (.inr (nI (sN (fun i => sN (fun j => if i < j then loA n (M 216) p i j else 0) 8) (k + 1)), nI (k + 1)))
    rw [sN_s]
    generalize sN (fun i => sN (fun j => if i < j then loA n (M 216) p i j else 0) 8) k = z
    unfold f_X11_cuts_24
    rw [bif_f (i_8 hk), has_hs (by omega), i_1]
    cases ho : hs (otS n (M 216) p) k
    · have hz : sN (fun j => if k < j then loA n (M 216) p k j else 0) 8 = 0 := sN_0 fun j hj => by
        by_cases hkj : k < j
        · rw [if_pos hkj]
          unfold loA loB
          by_cases hkp : k = p
          · rw [decide_eq_true hkp]; rfl
          · cases c : rch n (M 216) (hoS n (M 216)) 8 k j
            · rw [Bool.false_and, Bool.and_false, Bool.and_false]; rfl
            · have := rch_k hk hj c
              rw [hs_ot hp hk, this, decide_eq_false (Ne.symm hkp)] at ho
              cases ho
        · rw [if_neg hkj]
      rw [cond_false, hz]
      rfl
    · rw [cond_true, C_reached h (e := hoS n (M 216)) (S8.set _) ho_in, b1_s, C_reached h ot_8 (ot_in hp), b1_s]
      rw [show f_J6_bitCount_0f7a4 ((rcS n (M 216) (hoS n (M 216)) (f_X11_bit (nI k) &&& hoS n (M 216)) 8 &&& otS n (M 216) p &&& (rcS n (M 216) (otS n (M 216) p) (f_X11_bit (nI k) &&& otS n (M 216) p) 8 ^^^ (-1 : Int32))) &&& ((f_X11_bit (nI (k + 1)) - 1) ^^^ (-1 : Int32))) = nI (cntK ((rcS n (M 216) (hoS n (M 216)) (f_X11_bit (nI k) &&& hoS n (M 216)) 8 &&& otS n (M 216) p &&& (rcS n (M 216) (otS n (M 216) p) (f_X11_bit (nI k) &&& otS n (M 216) p) 8 ^^^ (-1 : Int32))) &&& ((f_X11_bit (nI (k + 1)) - 1) ^^^ (-1 : Int32))) 8) from bc_cnt (S8.andl (S8.andl (S8.andr ot_8))), nI_add, cnt_sN]
      refine congrArg (fun y => some (Sum.inr (nI (z + y), nI (k + 1)))) (sN_cg fun j hj => ?_)
      rw [hs_and, hs_and, hs_and, hs_nn (by omega), mask_k k hk j hj]
      show bN (((rch n (M 216) (hoS n (M 216)) 8 k j && hs (otS n (M 216) p) j) && !rch n (M 216) (otS n (M 216) p) 8 k j) && decide (k < j)) = _
      by_cases hkj : k < j
      · rw [if_pos hkj, decide_eq_true hkj, Bool.and_true]
        unfold loA loB
        have hkp : ¬ k = p := fun e => by
          rw [hs_ot hp hk, e, decide_eq_true rfl, Bool.not_true, Bool.and_false] at ho
          cases ho
        rw [decide_eq_false hkp, Bool.not_false, Bool.true_and]
        cases c : rch n (M 216) (hoS n (M 216)) 8 k j
        · simp only [Bool.false_and, Bool.and_false]
        · have hj' := rch_in hj c
          rw [hs_ot hp hj, hj', Bool.true_and, Bool.true_and, Bool.true_and]
          by_cases hjp : j = p
          · rw [decide_eq_true hjp, decide_eq_true hjp.symm]
          · rw [decide_eq_false hjp, decide_eq_false (Ne.symm hjp)]
      · rw [if_neg hkj, decide_eq_false hkj, Bool.and_false]; rfl
  · show f_X11_cuts_24 _ _ _ (nI 8) M = _
    unfold f_X11_cuts_24
    rw [bif_t i_88]
    rfl
theorem Op_cuts (h : Rl n M) {p : Int32} : OpT M (f_X11_cuts p) (f_X12_cuts p) tTwo := by
  have h8 := h.h8
  cases hP : isP n p
  · refine OpT.q h (r := .inr 2) (M1 := M) ?_ CQ.rf (fun Mo e hr => ⟨0, mst (mst Mo 215 0 0) 215 0 1, ?_, rq_thr.1, rq_thr.2.1, rq_thr.2.2, by decide⟩)
    · unfold f_X11_cuts
      rw [C_mustP h, hP, cond_false, tb_r]
    · unfold f_X12_cuts
      rw [wr_e, b1_a (m_nb h e), hP, m_tIf, b2_s, Bool.not_false, cond_true, cond_true]
  · obtain ⟨k, hk, rfl⟩ := isP_of h8 hP
    have hk8 : k < 8 := by omega
    have hC : f_X11_cuts (nI k) M = bif hoB (M 216) k then f_X11_cuts_l24 (hoS n (M 216)) (otS n (M 216) k) 0 0 M else some (.inl 0, M) := by
      unfold f_X11_cuts
      rw [C_mustP h, hP, cond_true, tb_l, h.ho, b1_s, has_hs (by omega), hs_hos hk8, decide_eq_true hk, Bool.true_and]
      rfl
    cases hh : hoB (M 216) k
    · refine OpT.q h (r := .inl 0) (M1 := M) ?_ CQ.rf (fun Mo e hr => ⟨0, mst Mo 215 0 0, ?_, rq_00, mst_no (by decide), rfl, mst_oo _ _ _ _⟩)
      · rw [hC, hh, cond_false]
      · have e' : mst Mo 215 0 0 216 = M 216 := by rw [mst_no (by decide), e]
        unfold f_X12_cuts
        rw [wr_e, b1_a (m_nb h e), hP, m_tIf, b2_s, Bool.not_true, cond_false, cond_false, m_holds hk8, b1_s, e', hh, cond_false]
    · refine OpT.q h (r := .inl (nI (uS (loA n (M 216) k) 8))) (M1 := M) ?_ CQ.rf (fun Mo e hr => ⟨_, mst Mo 215 0 0, ?_, rq_00, mst_no (by decide), rfl, mst_oo _ _ _ _⟩)
      · rw [hC, hh, cond_true, C_cuts_l h hk8]
      · have e' : mst Mo 215 0 0 216 = M 216 := by rw [mst_no (by decide), e]
        have hn' : mst Mo 215 0 0 216 0 = nI n := by rw [e']; exact h.hn
        unfold f_X12_cuts
        rw [wr_e, b1_a (m_nb h e), hP, m_tIf, b2_s, Bool.not_true, cond_false, cond_false, m_holds hk8, b1_s, e', hh, cond_true, m_hos hn' h8, b1_s, e', m_pairs (e := hoS n (M 216)) hn' h8 hk8 (S8.set _) ho_in, b1_s, b1_s, bitE]
        rw [show hoS n (M 216) &&& (f_X11_bit (nI k) ^^^ (-1 : Int32)) = otS n (M 216) k from rfl, m_pairs hn' h8 hk8 ot_8 (ot_in hk8), b1_s, e', cu_u ho_in, cu_u (ot_in hk8)]
        rw [uS_cg (f := cuA n (M 216) k (hoS n (M 216))) fun i j hi hj => cu_sp hk8 hi hj, uS_add, pk_sub (Nat.le_add_right _ _), Nat.add_sub_cancel_left]
end
