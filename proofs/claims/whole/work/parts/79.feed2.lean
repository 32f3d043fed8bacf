/-! feed, the op -/
section
variable {n : Nat} {M : mM}
theorem i_m8 {a : Nat} : nI 24 - nI a + (-8 : Int32) = nI 24 - nI (a + 8) := Int32.toBitVec.inj (by
  show BitVec.ofNat 32 24 - BitVec.ofNat 32 a + 4294967288#32 = BitVec.ofNat 32 24 - BitVec.ofNat 32 (a + 8)
  bv_omega)
theorem C_append {N : mM} {L : Nat} {p : Int32} (hL : L + 4 ≤ 400) (h : N 1 1 = nI L) : ∃ N', f_X7_append p N = some ((), N') ∧ N' 1 1 = nI (L + 4) ∧ (∀ j, j < 4 → N' 2 (L + j) = nI (byV p (24 - 8 * j))) ∧ (∀ x, x < L → N' 2 x = N 2 x) ∧ (∀ z, z ≠ 1 → z ≠ 2 → N' z = N z) ∧ ∀ k, k ≠ 1 → N' 1 k = N 1 k := by
  unfold f_X7_append f_X7_append_l2
  refine wh_V (fun k (s : Int32 × mM) => s.1 = nI 24 - nI (8 * k) ∧ s.2 1 1 = nI (L + k) ∧ (∀ j, j < k → s.2 2 (L + j) = nI (byV p (24 - 8 * j))) ∧ (∀ x, x < L → s.2 2 x = N 2 x) ∧ (∀ z, z ≠ 1 → z ≠ 2 → s.2 z = N z) ∧ ∀ q, q ≠ 1 → s.2 1 q = N 1 q) () _ 4 _ _ ⟨rfl, h, fun j hj => absurd hj (Nat.not_lt_zero j), fun _ _ => rfl, fun _ _ _ => rfl, fun _ _ => rfl⟩ (fun k hk s hs' => ?_) (fun s hs' => ?_) (by decide)
  · obtain ⟨a, X⟩ := s
    obtain ⟨h1, h2, h3, h4, h5, h6⟩ := hs'
    dsimp only at h1 h2 h3 h4 h5 h6
    subst h1
    show ∃ s', f_X7_append_2 p (nI 24 - nI (8 * k)) X = some (.inr s') ∧ _
    unfold f_X7_append_2
    have e0 : nI 24 - nI (8 * k) = nI (24 - 8 * k) := pk_sub (by omega)
    have e4 : decide ((400 : Int32) ≤ nI (L + k)) = false := (i_le (a := 400) (by decide) (by omega)).trans (decide_eq_false (by omega))
    rw [i_m8, e0, decide_eq_false (nI_pos (by omega)), cond_false, h2, decide_eq_false (nI_pos (by omega)), cond_false, e4, cond_false, gd_t (i_in (by omega) (by decide)), wr_e, i_ix (by omega), by_c p k hk, wr_e, mst_no (show 1 ≠ 2 by decide), h2, i_1]
    refine ⟨_, rfl, rfl, mst_oo (mst X 2 (L + k) (nI (byV p (24 - 8 * k)))) 1 1 (nI (L + k + 1)), fun j hj => ?_, fun x hx => ?_, fun z z1 z2 => ?_, fun q hq => ?_⟩
    · show mst (mst X 2 (L + k) (nI (byV p (24 - 8 * k)))) 1 1 (nI (L + k + 1)) 2 (L + j) = _
      rw [mst_no (by decide)]
      by_cases hjk : j = k
      · subst hjk; rw [mst_oo]
      · rw [mst_nk (by omega)]; exact h3 j (by omega)
    · show mst (mst X 2 (L + k) (nI (byV p (24 - 8 * k)))) 1 1 (nI (L + k + 1)) 2 x = _
      rw [mst_no (by decide), mst_nk (by omega)]
      exact h4 x hx
    · show mst (mst X 2 (L + k) (nI (byV p (24 - 8 * k)))) 1 1 (nI (L + k + 1)) z = _
      rw [mst_no z1, mst_no z2]
      exact h5 z z1 z2
    · show mst (mst X 2 (L + k) (nI (byV p (24 - 8 * k)))) 1 1 (nI (L + k + 1)) 1 q = _
      rw [mst_nk hq, mst_no (by decide)]
      exact h6 q hq
  · obtain ⟨a, X⟩ := s
    obtain ⟨h1, h2, h3, h4, h5, h6⟩ := hs'
    dsimp only at h1 h2 h3 h4 h5 h6
    subst h1
    show ∃ M', f_X7_append_2 p (nI 24 - nI (8 * 4)) X = some (.inl ((), M')) ∧ _
    unfold f_X7_append_2
    rw [show decide (nI 24 - nI (8 * 4) < 0) = true from rfl, cond_true]
    exact ⟨_, rfl, h2, h3, h4, h5, h6⟩
def ps5 (p1 p2 p3 p4 p5 : Int32) (i : Nat) : Int32 := match i with | 0 => p1 | 1 => p2 | 2 => p3 | 3 => p4 | _ => p5
theorem m_feed {N : mM} {L : Nat} {ps : Nat → Int32} (hL : L + 20 ≤ 400) (h13 : N 215 13 = nI L) (h224 : ∀ i, i < 5 → N 224 i = ps i) : ∃ N', f_X12_feed_l38 0 N = some (nI (L + 20), N') ∧ N' 215 13 = nI (L + 20) ∧ (∀ i, i < 20 → N' 223 (L + i) = sgn8 (byV (ps (i / 4)) (24 - 8 * (i % 4)))) ∧ (∀ x, x < L → N' 223 x = N 223 x) ∧ (∀ z, z ≠ 215 → z ≠ 223 → N' z = N z) ∧ ∀ k, k ≠ 13 → N' 215 k = N 215 k := by
  unfold f_X12_feed_l38
  refine wh_V (fun k (s : Int32 × mM) => s.1 = nI k ∧ (∀ i, i < k → s.2 223 (L + i) = sgn8 (byV (ps (i / 4)) (24 - 8 * (i % 4)))) ∧ (∀ x, x < L → s.2 223 x = N 223 x) ∧ ∀ z, z ≠ 223 → s.2 z = N z) _ _ 20 _ _ ⟨rfl, fun i hi => absurd hi (Nat.not_lt_zero i), fun _ _ => rfl, fun _ _ => rfl⟩ (fun k hk s hs' => ?_) (fun s hs' => ?_) (by decide)
  · obtain ⟨a, X⟩ := s
    obtain ⟨h1, h2, h3, h4⟩ := hs'
    dsimp only at h1 h2 h3 h4
    subst h1
    show ∃ s', f_X12_feed_38 (nI k) X = some (.inr s') ∧ _
    unfold f_X12_feed_38
    have e20 : decide ((20 : Int32) ≤ nI k) = false := (i_le (a := 20) (by decide) (by omega)).trans (decide_eq_false (by omega))
    have ed : nI k / (4 : Int32) = nI (k / 4) := pk_div (d := 4) (by omega) (by decide) (by decide)
    have er : rmd (nI k) (4 : Int32) = nI (k % 4) := pk_rem (d := 4) (by omega) (by decide) (by decide)
    have hm : k % 4 < 4 := Nat.mod_lt _ (by decide)
    have es : (24 : Int32) - (8 : Int32) * nI (k % 4) = nI (24 - 8 * (k % 4)) := by rw [show (8 : Int32) = nI 8 from rfl, show (24 : Int32) = nI 24 from rfl, pk_mul, pk_sub (by omega)]
    have e13 : X 215 13 = nI L := by rw [h4 215 (by decide)]; exact h13
    rw [e20, cond_false, ed, er, es, e13, nI_add, gd_t (i_in (by omega) (by decide)), gd_t (i_in (by omega) (by decide)), wr_e, i_ix (by omega), i_ix (by omega), h4 224 (by decide), h224 _ (by omega), by_m _ _ hm, nar_2, i_1]
    refine ⟨_, rfl, rfl, fun i hi => ?_, fun x hx => ?_, fun z hz => (mst_no hz).trans (h4 z hz)⟩
    · show mst X 223 (L + k) (vp_nar .byte (nI (byV (ps (k / 4)) (24 - 8 * (k % 4))))) 223 (L + i) = _
      by_cases hik : i = k
      · subst hik; rw [mst_oo]; rfl
      · rw [mst_nk (by omega)]; exact h2 i (by omega)
    · show mst X 223 (L + k) (vp_nar .byte (nI (byV (ps (k / 4)) (24 - 8 * (k % 4))))) 223 x = _
      rw [mst_nk (by omega)]
      exact h3 x hx
  · obtain ⟨a, X⟩ := s
    obtain ⟨h1, h2, h3, h4⟩ := hs'
    dsimp only at h1 h2 h3 h4
    subst h1
    show ∃ M', f_X12_feed_38 (nI 20) X = some (.inl (nI (L + 20), M')) ∧ _
    unfold f_X12_feed_38
    have e13 : X 215 13 = nI L := by rw [h4 215 (by decide)]; exact h13
    rw [show decide ((20 : Int32) ≤ nI 20) = true from rfl, cond_true, wr_e, mst_oo, e13, show (20 : Int32) = nI 20 from rfl, nI_add]
    refine ⟨_, rfl, mst_oo _ _ _ _, fun i hi => ?_, fun x hx => ?_, fun z z1 z2 => ?_, fun k hk => ?_⟩
    · rw [mst_no (by decide)]; exact h2 i hi
    · rw [mst_no (by decide)]; exact h3 x hx
    · rw [mst_no z1]; exact h4 z z2
    · rw [mst_nk hk, h4 215 (by decide)]
theorem Op_feed (h : Rl n M) {p1 p2 p3 p4 p5 : Int32} : OpA M (f_X11_feed p1 p2 p3 p4 p5) (f_X12_feed p1 p2 p3 p4 p5) := by
  have h8 := h.h8
  obtain ⟨L, hL, t1, t2, t3, t4⟩ := id h.tp
  have e20 : nI L + (20 : Int32) = nI (L + 20) := by rw [show (20 : Int32) = nI 20 from rfl, nI_add]
  have hR : f_X7_hasRoom M = some (decide (L + 20 ≤ 400)) := by
    unfold f_X7_hasRoom
    rw [t1, e20, show decide ((400 : Int32) < nI (L + 20)) = decide (400 < L + 20) from i_lt (a := 400) (by decide) (by omega)]
    by_cases hr : L + 20 ≤ 400
    · rw [decide_eq_true hr, decide_eq_false (by omega), cond_false]
    · rw [decide_eq_false hr, decide_eq_true (by omega), cond_true]
  have hm0 : ∀ Mo : mM, Mo 215 13 = nI L → decide ((mst Mo 215 0 0 215 13) + (20 : Int32) ≤ (400 : Int32)) = decide (L + 20 ≤ 400) := fun Mo e => by
    rw [mst_nk (by decide), e, e20]
    exact i_le (b := 400) (by omega) (by decide)
  by_cases hr : L + 20 ≤ 400
  · obtain ⟨N1, a1, a2, a3, a4, a5, a6⟩ := C_append (p := p1) (N := M) (L := L) (by omega) t1
    obtain ⟨N2, b1, b2, b3, b4, b5, b6⟩ := C_append (p := p2) (N := N1) (L := L + 4) (by omega) a2
    obtain ⟨N3, c1, c2, c3, c4, c5, c6⟩ := C_append (p := p3) (N := N2) (L := L + 4 + 4) (by omega) b2
    obtain ⟨N4, d1, d2, d3, d4, d5, d6⟩ := C_append (p := p4) (N := N3) (L := L + 4 + 4 + 4) (by omega) c2
    obtain ⟨N5, g1, g2, g3, g4, g5, g6⟩ := C_append (p := p5) (N := N4) (L := L + 4 + 4 + 4 + 4) (by omega) d2
    have eF : ∀ z, z ≠ 1 → z ≠ 2 → N5 z = M z := fun z z1 z2 => by rw [g5 z z1 z2, d5 z z1 z2, c5 z z1 z2, b5 z z1 z2, a5 z z1 z2]
    have e1 : ∀ k, k ≠ 1 → N5 1 k = M 1 k := fun k hk => by rw [g6 k hk, d6 k hk, c6 k hk, b6 k hk, a6 k hk]
    have eL : ∀ x, x < L → N5 2 x = M 2 x := fun x hx => by rw [g4 x (by omega), d4 x (by omega), c4 x (by omega), b4 x (by omega), a4 x hx]
    have eB : ∀ i, i < 20 → N5 2 (L + i) = nI (byV (ps5 p1 p2 p3 p4 p5 (i / 4)) (24 - 8 * (i % 4))) := fun i hi => by
      have hq : i / 4 < 5 := by omega
      have hi4 : i = 4 * (i / 4) + i % 4 := by omega
      have hm : i % 4 < 4 := Nat.mod_lt _ (by decide)
      generalize i / 4 = q at hq hi4 ⊢
      generalize i % 4 = r at hi4 hm ⊢
      match q, hq with
      | 0, _ => rw [show L + i = L + r by omega, g4 _ (by omega), d4 _ (by omega), c4 _ (by omega), b4 _ (by omega)]; exact a3 r hm
      | 1, _ => rw [show L + i = L + 4 + r by omega, g4 _ (by omega), d4 _ (by omega), c4 _ (by omega)]; exact b3 r hm
      | 2, _ => rw [show L + i = L + 4 + 4 + r by omega, g4 _ (by omega), d4 _ (by omega)]; exact c3 r hm
      | 3, _ => rw [show L + i = L + 4 + 4 + 4 + r by omega, g4 _ (by omega)]; exact d3 r hm
      | 4, _ => rw [show L + i = L + 4 + 4 + 4 + 4 + r by omega]; exact g3 r hm
    generalize hN : mst (mst (mst (mst (mst (mst N5 215 0 0) 224 0 p1) 224 1 p2) 224 2 p3) 224 3 p4) 224 4 p5 = N6
    have f6 : ∀ z, z ≠ 224 → z ≠ 215 → N6 z = N5 z := fun z z1 z2 => by rw [← hN, mst_no z1, mst_no z1, mst_no z1, mst_no z1, mst_no z1, mst_no z2]
    have f5 : ∀ k, k ≠ 0 → N6 215 k = M 215 k := fun k hk => by rw [← hN, mst_no (by decide), mst_no (by decide), mst_no (by decide), mst_no (by decide), mst_no (by decide), mst_nk hk, eF 215 (by decide) (by decide)]
    have f224 : ∀ i, i < 5 → N6 224 i = ps5 p1 p2 p3 p4 p5 i := fun i hi => by
      rw [← hN]
      match i, hi with
      | 0, _ => rw [mst_nk (by decide), mst_nk (by decide), mst_nk (by decide), mst_nk (by decide), mst_oo]; rfl
      | 1, _ => rw [mst_nk (by decide), mst_nk (by decide), mst_nk (by decide), mst_oo]; rfl
      | 2, _ => rw [mst_nk (by decide), mst_nk (by decide), mst_oo]; rfl
      | 3, _ => rw [mst_nk (by decide), mst_oo]; rfl
      | 4, _ => rw [mst_oo]; rfl
    obtain ⟨N7, k1, k2, k3, k4, k5, k6⟩ := m_feed hr ((f5 13 (by decide)).trans t2) f224
    have eZ : ∀ z, z ≠ 1 → z ≠ 2 → z ≠ 215 → z ≠ 223 → z ≠ 224 → N7 z = M z := fun z z1 z2 z3 z4 z5 => by rw [k5 z z3 z4, f6 z z5 z3, eF z z1 z2]
    have e5 : ∀ k, k ≠ 0 → k ≠ 13 → N7 215 k = M 215 k := fun k h1 h2 => by rw [k6 k h2, f5 k h1]
    have e216 : N7 216 = M 216 := eZ 216 (by decide) (by decide) (by decide) (by decide) (by decide)
    refine ⟨nI (L + 20), N5, N7, ?_, ?_, n, ?_⟩
    · unfold f_X11_feed
      rw [hR, b1_s, decide_eq_true hr, cond_true, b2_a a1, b2_a b1, b2_a c1, b2_a d1, b2_a g1, g2]
    · unfold f_X12_feed
      rw [wr_e, hm0 N5 (by rw [eF 215 (by decide) (by decide)]; exact t2), decide_eq_true hr, cond_true, wr_e, wr_e, wr_e, wr_e, wr_e, show ix (0 : Int32) = 0 from rfl, show ix (1 : Int32) = 1 from rfl, show ix (2 : Int32) = 2 from rfl, show ix (3 : Int32) = 3 from rfl, show ix (4 : Int32) = 4 from rfl, hN, k1]
    · refine ⟨by rw [e216]; exact h.1, by rw [e216]; exact h.2.1, by rw [e216]; exact h.ts.in216 h8 fun z z1 z2 => eZ z (by omega) (by omega) (by omega) (by omega) (by omega), by rw [e216]; exact h.lw.rf fun j hj => eZ _ (by omega) (by omega) (by omega) (by omega) (by omega), ⟨L + 20, hr, ?_, k2, ?_, fun i hi => ?_⟩, ?_, ?_⟩
      · rw [k5 1 (by decide) (by decide), f6 1 (by decide) (by decide)]; exact g2
      · rw [k5 1 (by decide) (by decide), f6 1 (by decide) (by decide), e1 3 (by decide), e5 18 (by decide) (by decide)]; exact t3
      · rw [k5 2 (by decide) (by decide), f6 2 (by decide) (by decide)]
        by_cases hil : i < L
        · obtain ⟨b, q1, q2, q3⟩ := t4 i hil
          exact ⟨b, q1, by rw [eL i hil]; exact q2, by rw [k4 i hil, f6 223 (by decide) (by decide), eF 223 (by decide) (by decide)]; exact q3⟩
        · obtain ⟨j, rfl⟩ : ∃ j, i = L + j := ⟨i - L, by omega⟩
          exact ⟨_, byV_lt _ _, eB j (by omega), k3 j (by omega)⟩
      · exact h.im.mv (by rw [eZ 0 (by decide) (by decide) (by decide) (by decide) (by decide)]) (e5 _ (by decide) (by decide)) (eZ 217 (by decide) (by decide) (by decide) (by decide) (by decide)) (fun z z1 z2 => eZ z (by omega) (by omega) (by omega) (by omega) (by omega)) (fun z z1 z2 => eZ z (by omega) (by omega) (by omega) (by omega) (by omega))
      · obtain ⟨y, c, hCp, hMp⟩ := h.ps.out
        exact Ps.mk (Mc := N7) (Mm := M) (hCp.mv fun z hz => eZ z (by omega) (by omega) (by omega) (by omega) (by omega)) hMp (fun z _ => rfl) (e5 _ (by decide) (by decide)) (eZ 220 (by decide) (by decide) (by decide) (by decide) (by decide)) (by rw [e216])
  · refine OpA.q h (v := -1) (M1 := M) ?_ CQ.rf (fun h1 _ => ⟨mst M 215 0 0, ?_, rq_00⟩)
    · unfold f_X11_feed
      rw [hR, b1_s, decide_eq_false hr, cond_false]
    · unfold f_X12_feed
      rw [wr_e, hm0 M t2, decide_eq_false hr, cond_false]
end
