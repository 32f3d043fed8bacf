/-! roster, dearest: the ops -/
theorem isP_o2 {n : Nat} {p : Int32} (hn : n < 2 ^ 31) (h : isP n p = true) : ∃ k, k < n ∧ p = nI k := by
  unfold isP at h
  rw [Bool.and_eq_true] at h
  rcases pk_ix p (n := n) hn with q | q | q
  · rw [decide_eq_true q] at h; exact absurd h.1 (by decide)
  · rw [decide_eq_true q] at h; exact absurd h.2 (by decide)
  · exact q
theorem in_P2 {m : Nat} (_ : 0 < m) (h : m < 2 ^ 31) (p : Int32) : f_X12_in p 0 (nI m - 1) = isP m p := by
  rw [in_B]
  exact inB_n h
theorem inB_of {lo hi : Nat} (hl : lo ≤ hi) (hh : hi < 2 ^ 31) {x : Int32} (h : inB (nI lo) (nI hi) x = true) : ∃ m, lo ≤ m ∧ m ≤ hi ∧ x = nI m := by
  unfold inB at h
  rw [Bool.and_eq_true, ← dn, ← dn] at h
  have h1 := of_decide_eq_true h.1
  have h2 := of_decide_eq_true h.2
  have h3 : ¬ x < 0 := fun hc => h1 (Int32.lt_of_lt_of_le hc (nI_pos' (by omega)))
  obtain ⟨j, hj, rfl⟩ := nI_of h3
  refine ⟨j, ?_, ?_, rfl⟩
  · refine Classical.byContradiction fun hc => h1 (nI_lt (by omega) (by omega))
  · refine Classical.byContradiction fun hc => h2 (nI_lt (by omega) (by omega))
theorem sb_all {n s : Nat} (h8 : n ≤ 8) (hs1 : s < 2 ^ n) : sbN s (2 ^ n - 1) = true := (by decide +kernel : ∀ n, n ≤ 8 → ∀ s, s < 2 ^ n → sbN s (2 ^ n - 1) = true) n h8 s hs1
theorem tb_all {n j : Nat} (h8 : n ≤ 8) (hj : j < 8) : (2 ^ n - 1).testBit j = decide (j < n) := (by decide +kernel : ∀ n, n ≤ 8 → ∀ j, j < 8 → (2 ^ n - 1).testBit j = decide (j < n)) n h8 j hj
theorem sb_but {n i s : Nat} (h8 : n ≤ 8) (hi : i < n) (hs1 : s < 2 ^ n) : decide (nI s &&& f_X11_bit (nI i) = 0) = sbN s (2 ^ n - 1 - 2 ^ i) := (by decide +kernel : ∀ n, n ≤ 8 → ∀ i, i < n → ∀ s, s < 2 ^ n → decide (nI s &&& f_X11_bit (nI i) = 0) = sbN s (2 ^ n - 1 - 2 ^ i)) n h8 i hi s hs1
section
variable {n : Nat} {M : mM}
def fuN (n : Nat) (W : Nat → Int32) (j : Nat) : Nat := if j < n then ix (pv W j 1) else 0
theorem fuN_p {W : Nat → Int32} (hw : WF n W) {j : Nat} (hj : j < n) : pv W j 1 = nI (fuN n W j) := by
  obtain ⟨-, ⟨x, hx, e⟩, -, -⟩ := hw.2.2.2.1 j hj
  unfold fuN
  rw [if_pos hj, e, i_ix (by omega)]
theorem fuN_b {W : Nat → Int32} (hw : WF n W) (j : Nat) : fuN n W j ≤ 999 := by
  unfold fuN
  by_cases hj : j < n
  · obtain ⟨-, ⟨x, hx, e⟩, -, -⟩ := hw.2.2.2.1 j hj
    rw [if_pos hj, e, i_ix (by omega)]
    exact hx
  · rw [if_neg hj]; exact Nat.zero_le _
theorem fsN_b {fu : Nat → Nat} (h : ∀ j, fu j ≤ 999) (t : Nat) : fsN fu t < 2 ^ 30 := by
  have : fsN fu t ≤ 7992 := by
    unfold fsN
    refine Nat.le_trans (sN_le (g := fun _ => 999) fun j _ => ?_) (Nat.le_of_eq rfl)
    by_cases c : t.testBit j = true
    · rw [if_pos c]; exact h j
    · rw [if_neg c]; exact Nat.zero_le _
  omega
theorem fu_row (h : Rl n M) {e : Nat} (he : sbN e (2 ^ n - 1) = true) (he2 : e < 256) : ∀ j, j < 8 → e.testBit j = true → M 37 j = nI (fuN n (M 216) j) := fun j hj hb => by
  have h8 := h.h8
  have hp := p256 h8
  have := (sb_iff he2 (by omega)).mp he j hj hb
  rw [tb_all h8 hj] at this
  have hjn := of_decide_eq_true this
  rw [← fuN_p h.wf hjn]
  exact (h.tr.pp hjn).2.1
/-- what a roster answers -/
def roV (e x : Nat) (fu : Nat → Nat) (h : Nat) (k : Int32) : Int32 := bif decide (rF e x fu h e < 10000) then (bif decide (k = -1) then nI (rF e x fu h e) else bif isP h k then nI (wqK e x fu h (ix k + 1)) else -1) else -1
theorem C_ros (h : Rl n M) (h0 : ∀ t, t < 256 → M 12 t = 0) {hr x : Nat} (hh : hr ≤ 12) (h1 : 1 ≤ hr) (hx : x ≤ 999) {k : Int32} : ∃ M1, f_X11_roster_14 (nI hr) (nI x) k true M = some (.inl (roV (2 ^ n - 1) x (fuN n (M 216)) hr k), M1) ∧ (∀ z, z ≠ 10 → z ≠ 11 → z ≠ 12 → M1 z = M z) ∧ ∀ t, t < 256 → M1 12 t = 0 := by
  have h8 := h.h8
  have hp := p256 h8
  have hp0 := Nat.two_pow_pos n
  obtain ⟨N', a1, a2, a3, a4⟩ := C_places (o := 37) (N := M) (e := 2 ^ n - 1) (x := x) (fu := fuN n (M 216)) (by omega) hx (by decide) (by decide) (fu_row h (sb_all h8 (by omega)) (by omega)) (fuN_b h.wf) h0 hh
  have hb := rF_le (e := 2 ^ n - 1) (x := x) (fu := fuN n (M 216)) hr (2 ^ n - 1) (by omega) (by omega)
  unfold f_X11_roster_14 f_X11_mustBeOne roV
  rw [cond_true, tb_l, C_every h, b1_s, ev_nat h8, a1, b2_s]
  by_cases hf : rF (2 ^ n - 1) x (fuN n (M 216)) hr (2 ^ n - 1) < 10000
  · rw [decide_eq_true hf, cond_true, cond_true]
    by_cases hk : k = -1
    · rw [decide_eq_true hk, cond_true, cond_true]
      exact ⟨N', rfl, a3, a4⟩
    · rw [decide_eq_false hk, cond_false, cond_false, dn, decide_eq_false (fun z => nI_pos (show rF (2 ^ n - 1) x (fuN n (M 216)) hr (2 ^ n - 1) < 2 ^ 31 by omega) (by rw [z]; decide)), Bool.not_false, cond_true]
      cases c : isP hr k
      · rw [cond_false]
        refine ⟨N', ?_, a3, a4⟩
        unfold isP at c
        cases c1 : decide (k < 0)
        · rw [c1, Bool.not_false, Bool.true_and] at c
          cases c2 : decide (nI hr ≤ k)
          · rw [c2] at c; cases c
          · rfl
        · rfl
      · obtain ⟨j, hj, rfl⟩ := isP_o2 (by omega) c
        rw [cond_true, decide_eq_false (nI_pos (by omega)), cond_false, i_le (by omega) (by omega), decide_eq_false (by omega), cond_false, C_setOf (by omega) hx (fun t _ => fsN_b (fuN_b h.wf) t) hh hj a2 hf, b1_s, i_ix (by omega)]
        exact ⟨N', rfl, a3, a4⟩
  · rw [decide_eq_false hf, cond_false, cond_false]
    refine ⟨N', ?_, a3, a4⟩
    cases decide (k = -1) <;> rfl
theorem M_ros {X : mM} (hw : WF n (X 216)) {hr x : Nat} (hh : hr ≤ 12) (h1 : 1 ≤ hr) (hx : x ≤ 999) {k : Int32} : ∃ X', f_X12_roster_17 (nI hr) (nI x) k false X = some (roV (2 ^ n - 1) x (fuN n (X 216)) hr k, X') ∧ ∀ z, z ≠ 230 → X' z = X z := by
  have h8 := hw.2.1
  have hn := hw.1
  have hp := p256 h8
  have hp0 := Nat.two_pow_pos n
  obtain ⟨X', a1, a2, a3⟩ := m_laysP (X := X) (e := 2 ^ n - 1) (x := x) (fu := fuN n (X 216)) hn h8 hx (fun j hj => fuN_p hw hj) (fsN_b (fuN_b hw)) (h := hr) (by omega) hh (by omega) (but := 0) fun s hs1 => by
    rw [sb_all h8 hs1, Int32.and_zero]
    rfl
  have hn' : X' 216 0 = nI n := by rw [a2 216 (by decide)]; exact hn
  have tab : ∀ j, j < hr → ∀ s, s < 2 ^ n → X' 230 (256 * j + s) = nI (rR (2 ^ n - 1) x (fuN n (X 216)) (2 ^ n) (hr - j) s) := fun j hj s hs1 => by
    have := a3 (hr - 1 - j) (by omega) s hs1
    rw [show hr - 1 - (hr - 1 - j) = j by omega, show hr - 1 - j + 1 = hr - j by omega] at this
    exact this
  have few := m_fewest (X := X') (e := 2 ^ n - 1) (x := x) (fu := fuN n (X 216)) hn' h8 (h := hr) fun t ht => by
    have := tab 0 (by omega) t ht
    rw [Nat.mul_zero, Nat.zero_add, Nat.sub_zero] at this
    exact this
  unfold f_X12_roster_17 roV
  rw [m_tIf, b2_s, cond_false, cond_false, a1, b2_s, few, b1_s, show (1000000 : Int32) = nI 1000000 from rfl, dn]
  rcases ro_all (n := n) (e := 2 ^ n - 1) (x := x) (fu := fuN n (X 216)) (h := hr) (by omega) hh (by omega) h8 with ⟨g1, g2⟩ | ⟨g1, g2⟩
  · have hf : rF (2 ^ n - 1) x (fuN n (X 216)) hr (2 ^ n - 1) < 10000 := by omega
    rw [← g2, i_eq (by omega) (by decide), decide_eq_false (by omega), Bool.not_false, cond_true, decide_eq_true hf, cond_true, dn]
    by_cases hk : k = -1
    · rw [decide_eq_true hk, Bool.not_true, cond_false, cond_true]
      exact ⟨X', rfl, a2⟩
    · rw [decide_eq_false hk, Bool.not_false, cond_true, cond_false, in_P2 (by omega) (by omega)]
      cases c : isP hr k
      · rw [cond_false, cond_false]
        exact ⟨X', rfl, a2⟩
      · obtain ⟨j, hj, rfl⟩ := isP_o2 (by omega) c
        rw [cond_true, cond_true, i_ix (by omega)]
        refine ⟨X', ?_, a2⟩
        have wp := wq_p (e := 2 ^ n - 1) (x := x) (fu := fuN n (X 216)) (N := 2 ^ n) (n := hr) (by omega) hp hf (by omega)
        unfold f_X12_roster_l55
        refine wh_ne (fun i => (nI (rF (2 ^ n - 1) x (fuN n (X 216)) (hr - i) (2 ^ n - 1 - wqK (2 ^ n - 1) x (fuN n (X 216)) hr i)), nI (wqK (2 ^ n - 1) x (fuN n (X 216)) hr i), nI (wqK (2 ^ n - 1) x (fuN n (X 216)) hr i), nI i)) (j + 1) _ (by omega) rfl (fun i hi => ?_) ?_
        · obtain ⟨w1, w2, w3⟩ := wp i (by omega)
          obtain ⟨w4, w5, w6, w7⟩ := w3 (by omega)
          obtain ⟨v1, v2, -⟩ := wp (i + 1) (by omega)
          have hwi := sb_le w1
          show f_X12_roster_55 (nI j) (nI (rF (2 ^ n - 1) x (fuN n (X 216)) (hr - i) (2 ^ n - 1 - wqK (2 ^ n - 1) x (fuN n (X 216)) hr i))) (nI (wqK (2 ^ n - 1) x (fuN n (X 216)) hr i)) (nI (wqK (2 ^ n - 1) x (fuN n (X 216)) hr i)) (nI i) X' = some (.inr (nI (rF (2 ^ n - 1) x (fuN n (X 216)) (hr - (i + 1)) (2 ^ n - 1 - wqK (2 ^ n - 1) x (fuN n (X 216)) hr (i + 1))), nI (wqK (2 ^ n - 1) x (fuN n (X 216)) hr (i + 1)), nI (wqK (2 ^ n - 1) x (fuN n (X 216)) hr (i + 1)), nI (i + 1)))
          unfold f_X12_roster_55 f_X12_roster_l60
          rw [i_lt (by omega) (by omega), decide_eq_false (by omega), cond_false]
          have e1 : hr - i = hr - i - 1 + 1 := by omega
          have pr : ∀ s, s < 2 ^ n → (decide (s &&& wqK (2 ^ n - 1) x (fuN n (X 216)) hr i = 0) && decide (rR (2 ^ n - 1) x (fuN n (X 216)) (2 ^ n) (hr - i) s = rF (2 ^ n - 1) x (fuN n (X 216)) (hr - i) (2 ^ n - 1 - wqK (2 ^ n - 1) x (fuN n (X 216)) hr i))) = pcK (2 ^ n - 1) x (fuN n (X 216)) (hr - i - 1) (2 ^ n - 1 - wqK (2 ^ n - 1) x (fuN n (X 216)) hr i) s := fun s hs1 => by
            rw [e1] at w2 ⊢
            exact pc_pr (by omega) (by omega) hp w1 w2 hs1
          have ask : ∀ s, s < 2 ^ n → f_X12_roster_60 (nI j) (nI (rF (2 ^ n - 1) x (fuN n (X 216)) (hr - i) (2 ^ n - 1 - wqK (2 ^ n - 1) x (fuN n (X 216)) hr i))) (nI s) (nI (wqK (2 ^ n - 1) x (fuN n (X 216)) hr i)) (nI i) X' = bif pcK (2 ^ n - 1) x (fuN n (X 216)) (hr - i - 1) (2 ^ n - 1 - wqK (2 ^ n - 1) x (fuN n (X 216)) hr i) s then some (.inl (.inr (nI (rF (2 ^ n - 1) x (fuN n (X 216)) (hr - i) (2 ^ n - 1 - wqK (2 ^ n - 1) x (fuN n (X 216)) hr i)) - nI (cn s), nI s, nI s, nI (i + 1)))) else some (.inr (nI (s + 1))) := fun s hs1 => by
            have b2 := rR_le (e := 2 ^ n - 1) (x := x) (fu := fuN n (X 216)) (N := 2 ^ n) (k := hr - i) (s := s)
            rw [← pr s hs1]
            unfold f_X12_roster_60
            rw [dn, and_0 (by omega) (by omega), i_1, i_mul, nI_add, gd_t (i_in (by omega) (by decide)), i_ix (by omega), tab i (by omega) s hs1, i_eq (by omega) (by omega), i_1, show f_J6_bitCount_0f7a4 (nI s) = nI (cn s) from bc_cn (by omega)]
            cases decide (s &&& wqK (2 ^ n - 1) x (fuN n (X 216)) hr i = 0)
            · rfl
            · rw [Bool.not_true, cond_false, Bool.true_and]
          refine wh_ne (fun s => nI s) (wqK (2 ^ n - 1) x (fuN n (X 216)) hr (i + 1)) _ (by omega) rfl (fun s hs1 => ?_) ?_
          · show f_X12_roster_60 (nI j) _ (nI s) _ (nI i) X' = _
            rw [ask s (by omega), w6 s hs1, cond_false]
          · show f_X12_roster_60 (nI j) _ (nI (wqK (2 ^ n - 1) x (fuN n (X 216)) hr (i + 1))) _ (nI i) X' = _
            have := cn_le (wqK (2 ^ n - 1) x (fuN n (X 216)) hr (i + 1))
            rw [ask _ w4, w5, cond_true, pk_sub (by omega), show rF (2 ^ n - 1) x (fuN n (X 216)) (hr - i) (2 ^ n - 1 - wqK (2 ^ n - 1) x (fuN n (X 216)) hr i) - cn (wqK (2 ^ n - 1) x (fuN n (X 216)) hr (i + 1)) = rF (2 ^ n - 1) x (fuN n (X 216)) (hr - (i + 1)) (2 ^ n - 1 - wqK (2 ^ n - 1) x (fuN n (X 216)) hr (i + 1)) by omega]
        · show f_X12_roster_55 (nI j) _ (nI (wqK (2 ^ n - 1) x (fuN n (X 216)) hr (j + 1))) _ (nI (j + 1)) X' = _
          unfold f_X12_roster_55
          rw [i_lt (by omega) (by omega), decide_eq_true (by omega), cond_true]
  · rw [g1, decide_eq_true rfl, Bool.not_true, cond_false, decide_eq_false (by omega), cond_false]
    exact ⟨X', rfl, a2⟩
theorem Op_roster (h : Rl n M) (h0 : ∀ t, t < 256 → M 12 t = 0) {p q k : Int32} : OpT M (f_X11_roster p q k) (f_X12_roster p q k) tOne := by
  have h8 := h.h8
  have hC : f_X11_roster p q k M = f_X11_roster_14 p q k (inB 1 12 p && inB 0 999 q) M := by
    unfold f_X11_roster f_X11_roster_13 inB
    cases decide (p < 1) <;> cases decide ((12 : Int32) < p) <;> cases decide (q < 0) <;> cases decide ((999 : Int32) < q) <;> rfl
  have hM : ∀ Mo, f_X12_roster p q k Mo = f_X12_roster_17 p q k (!(inB 1 12 p && inB 0 999 q)) (mst Mo 215 0 0) := fun Mo => by
    unfold f_X12_roster f_X12_roster_14
    rw [wr_e, in_B, in_B]
    cases inB 1 12 p <;> cases inB 0 999 q <;> rfl
  cases c : inB 1 12 p && inB 0 999 q
  · refine OpT.q h (r := .inr 0) (M1 := M) ?_ CQ.rf (fun Mo e hr => ⟨0, mst (mst Mo 215 0 0) 215 0 1, ?_, rq_thr.1, rq_thr.2.1, rq_thr.2.2, by decide⟩)
    · rw [hC, c]
      unfold f_X11_roster_14 f_X11_mustBeOne
      rw [cond_false, tb_r]
    · rw [hM, c]
      unfold f_X12_roster_17
      rw [Bool.not_false, m_tIf, b2_s, cond_true, cond_true]
  · have c2 := c
    rw [Bool.and_eq_true] at c2
    obtain ⟨hr, r1, r2, rfl⟩ := inB_of (lo := 1) (hi := 12) (by decide) (by decide) c2.1
    obtain ⟨x, -, x2, rfl⟩ := inB_of (lo := 0) (hi := 999) (by decide) (by decide) c2.2
    obtain ⟨M1, a1, a2, -⟩ := C_ros h h0 r2 r1 x2 (k := k)
    refine OpT.q h (r := .inl (roV (2 ^ n - 1) x (fuN n (M 216)) hr k)) (M1 := M1) (by rw [hC, c, a1]) (CQ.of fun z hz => a2 z (fun e => by subst e; cases hz) (fun e => by subst e; cases hz) (fun e => by subst e; cases hz)) (fun Mo e hr' => ?_)
    have e' : mst Mo 215 0 0 216 = M 216 := by rw [mst_no (by decide), e]
    obtain ⟨X', b1, b2⟩ := M_ros (n := n) (X := mst Mo 215 0 0) (by rw [e']; exact h.wf) r2 r1 x2 (k := k)
    rw [e'] at b1
    exact ⟨_, X', by rw [hM, c]; exact b1, rq_00.tr (RQ.of (fun z _ _ _ _ z5 => b2 z (by omega)) fun k _ => by rw [b2 215 (by decide)]), by rw [b2 231 (by decide), mst_no (by decide)], rfl, by rw [b2 215 (by decide), mst_oo]⟩
/-- and the row is as it was -/
theorem Z_roster (h : Rl n M) (h0 : ∀ t, t < 256 → M 12 t = 0) {p q k : Int32} {r : Int32 ⊕ Nat} {M1 : mM} (e : f_X11_roster p q k M = some (r, M1)) : ∀ t, t < 256 → M1 12 t = 0 := by
  have hC : f_X11_roster p q k M = f_X11_roster_14 p q k (inB 1 12 p && inB 0 999 q) M := by
    unfold f_X11_roster f_X11_roster_13 inB
    cases decide (p < 1) <;> cases decide ((12 : Int32) < p) <;> cases decide (q < 0) <;> cases decide ((999 : Int32) < q) <;> rfl
  rw [hC] at e
  cases c : inB 1 12 p && inB 0 999 q
  · rw [c] at e
    unfold f_X11_roster_14 f_X11_mustBeOne at e
    rw [cond_false, tb_r] at e
    cases e
    exact h0
  · rw [c] at e
    rw [Bool.and_eq_true] at c
    obtain ⟨hr, r1, r2, rfl⟩ := inB_of (lo := 1) (hi := 12) (by decide) (by decide) c.1
    obtain ⟨x, -, x2, rfl⟩ := inB_of (lo := 0) (hi := 999) (by decide) (by decide) c.2
    obtain ⟨M2, a1, a2, a3⟩ := C_ros h h0 r2 r1 x2 (k := k)
    rw [a1] at e
    cases e
    exact a3
/-- the dearest: the index of the greatest -/
def giK (G : Nat → Nat) : Nat → Nat
  | 0 => 0
  | k + 1 => if G (giK G k) < G (k + 1) then k + 1 else giK G k
theorem giK_s (G : Nat → Nat) (k : Nat) : giK G (k + 1) = if G (giK G k) < G (k + 1) then k + 1 else giK G k := rfl
theorem giK_le (G : Nat → Nat) : ∀ k, giK G k ≤ k := by
  intro k
  induction k with
  | zero => exact Nat.le_refl _
  | succ k ih =>
    rw [giK_s]
    by_cases c : G (giK G k) < G (k + 1)
    · rw [if_pos c]; exact Nat.le_refl _
    · rw [if_neg c]; omega
def deV (G : Nat → Nat) : Nat → Int32
  | 0 => -1
  | k + 1 => nI (giK G k)
def deG (G : Nat → Nat) : Nat → Int32
  | 0 => -1
  | k + 1 => nI (G (giK G k))
def eiN (n i : Nat) : Nat := 2 ^ n - 1 - 2 ^ i
def dD (n : Nat) (W : Nat → Int32) (i : Nat) : Nat := if rF (eiN n i) 100 (fuN n W) 2 (eiN n i) < 10000 then rF (eiN n i) 100 (fuN n W) 2 (eiN n i) else 10000
def dG (n : Nat) (W : Nat → Int32) (i : Nat) : Nat := mnK (fun _ => true) (rR (eiN n i) 100 (fuN n W) (2 ^ n) 2) (2 ^ n)
theorem d_rel {W : Nat → Int32} (h8 : n ≤ 8) {i : Nat} (hi : i < n) : (dG n W i ≤ 16 ∧ dD n W i = dG n W i) ∨ (dG n W i = 1000000 ∧ dD n W i = 10000) := by
  have hp0 := Nat.two_pow_pos n
  have hpi := Nat.two_pow_pos i
  unfold dD dG
  rcases ro_all (n := n) (e := eiN n i) (x := 100) (fu := fuN n W) (h := 2) (by decide) (by decide) (by unfold eiN; omega) h8 with ⟨g1, g2⟩ | ⟨g1, g2⟩
  · left
    refine ⟨by omega, ?_⟩
    rw [if_pos (by omega), g2]
  · right
    exact ⟨g1, if_neg (by omega)⟩
theorem d_lt {W : Nat → Int32} (h8 : n ≤ 8) {i j : Nat} (hi : i < n) (hj : j < n) : (dD n W i < dD n W j) ↔ (dG n W i < dG n W j) := by
  rcases d_rel (W := W) h8 hi with ⟨a, b⟩ | ⟨a, b⟩ <;> rcases d_rel (W := W) h8 hj with ⟨c, d⟩ | ⟨c, d⟩ <;> omega
theorem gi_DG {W : Nat → Int32} (h8 : n ≤ 8) : ∀ k, k < n → giK (dD n W) k = giK (dG n W) k := by
  intro k
  induction k with
  | zero => intro _; rfl
  | succ k ih =>
    intro hk
    have := giK_le (dG n W) k
    rw [giK_s, giK_s, ih (by omega)]
    by_cases c : dG n W (giK (dG n W) k) < dG n W (k + 1)
    · rw [if_pos c, if_pos ((d_lt h8 (by omega) hk).mpr c)]
    · rw [if_neg c, if_neg fun z => c ((d_lt h8 (by omega) hk).mp z)]
theorem ei_b {i : Nat} (h8 : n ≤ 8) (hi : i < n) : nI (2 ^ n - 1) &&& (f_X11_bit (nI i) ^^^ (-1 : Int32)) = nI (eiN n i) ∧ eiN n i < 2 ^ n ∧ sbN (eiN n i) (2 ^ n - 1) = true := by
  have hp := p256 h8
  have hp0 := Nat.two_pow_pos n
  have hpi := Nat.two_pow_pos i
  have hb : (2 ^ n - 1).testBit i = true := by rw [tb_all h8 (by omega)]; exact decide_eq_true hi
  refine ⟨not_bit (by omega) (by omega) hb, by unfold eiN; omega, sb_all h8 (by unfold eiN; omega)⟩
theorem Op_dearest (h : Rl n M) (h0 : ∀ t, t < 256 → M 12 t = 0) : OpA M f_X11_dearest f_X12_dearest ∧ ∀ v M1, f_X11_dearest M = some (v, M1) → ∀ t, t < 256 → M1 12 t = 0 := by
  have h8 := h.h8
  have hn := h.hn
  have hp := p256 h8
  have hp0 := Nat.two_pow_pos n
  obtain ⟨D, hD⟩ : ∃ D, D = dD n (M 216) := ⟨_, rfl⟩
  obtain ⟨G, hG⟩ : ∃ G, G = dG n (M 216) := ⟨_, rfl⟩
  have bD : ∀ i, i < n → D i ≤ 10000 := fun i hi => by rw [hD]; rcases d_rel (W := M 216) h8 hi with ⟨a, b⟩ | ⟨a, b⟩ <;> omega
  have bG : ∀ i, i < n → G i ≤ 1000000 := fun i hi => by rw [hG]; exact mn_F _
  have eDG : ∀ k, k < n → giK D k = giK G k := fun k hk => by rw [hD, hG]; exact gi_DG h8 k hk
  -- the class
  have hC : ∃ M1, f_X11_dearest M = some (deV D n, M1) ∧ (∀ z, z ≠ 10 → z ≠ 11 → z ≠ 12 → M1 z = M z) ∧ ∀ t, t < 256 → M1 12 t = 0 := by
    unfold f_X11_dearest f_X11_dearest_l6
    refine wh_V (fun k (s : Int32 × Int32 × Int32 × mM) => s.1 = deV D (min k n) ∧ (∀ j, min k n = j + 1 → s.2.1 = nI (D (giK D j))) ∧ s.2.2.1 = nI k ∧ (∀ z, z ≠ 10 → z ≠ 11 → z ≠ 12 → s.2.2.2 z = M z) ∧ ∀ t, t < 256 → s.2.2.2 12 t = 0) _ _ 8 _ _ ⟨by rw [Nat.zero_min]; rfl, fun j hj => by omega, rfl, fun _ _ _ _ => rfl, h0⟩ (fun k hk s hs' => ?_) (fun s hs' => ?_) (by decide)
    · obtain ⟨a, b, c, Y⟩ := s
      obtain ⟨g1, g2, g3, g4, g5⟩ := hs'
      dsimp only at g1 g2 g3 g4 g5
      subst g3
      have e35 : Y 35 0 = nI n := by rw [g4 35 (by decide) (by decide) (by decide)]; exact h.tr.1
      show ∃ s', f_X11_dearest_6 a b (nI k) Y = some (.inr s') ∧ _
      unfold f_X11_dearest_6
      rw [bif_f (i_8 hk), e35, i_ge (by omega) (by omega), i_1]
      by_cases hkn : k < n
      · rw [show min k n = k by omega] at g1 g2
        have hYev : f_X9_everyone 35 Y = some (evS n) := by
          unfold f_X9_everyone
          rw [gd_t T35, e35]
          exact congrArg some (ev_bits n h8)
        obtain ⟨q1, q2, q3⟩ := ei_b h8 hkn
        obtain ⟨N', a1, a2, a3, a4⟩ := C_places (o := 37) (N := Y) (e := eiN n k) (x := 100) (fu := fuN n (M 216)) (by omega) (by decide) (by decide) (by decide) (fun j hj hb => by rw [g4 37 (by decide) (by decide) (by decide)]; exact fu_row h q3 (by omega) j hj hb) (fuN_b h.wf) g5 (h := 2) (by decide)
        rw [decide_eq_true hkn, Bool.not_true, cond_false, hYev, b1_s, ev_nat h8, q1, show (2 : Int32) = nI 2 from rfl, show (100 : Int32) = nI 100 from rfl, a1, b2_s]
        have hDk : D k = if rF (eiN n k) 100 (fuN n (M 216)) 2 (eiN n k) < 10000 then rF (eiN n k) 100 (fuN n (M 216)) 2 (eiN n k) else 10000 := by rw [hD]; rfl
        have e37 : (bif decide (¬ (bif decide (rF (eiN n k) 100 (fuN n (M 216)) 2 (eiN n k) < 10000) then nI (rF (eiN n k) 100 (fuN n (M 216)) 2 (eiN n k)) else (-1 : Int32)) = (-1 : Int32)) then f_X11_dearest_37 a b (nI k) (bif decide (rF (eiN n k) 100 (fuN n (M 216)) 2 (eiN n k) < 10000) then nI (rF (eiN n k) 100 (fuN n (M 216)) 2 (eiN n k)) else (-1 : Int32)) N' else f_X11_dearest_37 a b (nI k) (10000 : Int32) N') = f_X11_dearest_37 a b (nI k) (nI (D k)) N' := by
          rw [hDk]
          by_cases c : rF (eiN n k) 100 (fuN n (M 216)) 2 (eiN n k) < 10000
          · rw [decide_eq_true c, cond_true, if_pos c, show decide (¬ nI (rF (eiN n k) 100 (fuN n (M 216)) 2 (eiN n k)) = (-1 : Int32)) = true from decide_eq_true fun z => nI_pos (show rF (eiN n k) 100 (fuN n (M 216)) 2 (eiN n k) < 2 ^ 31 by omega) (by rw [z]; decide), cond_true]
          · rw [decide_eq_false c, cond_false, if_neg c]
            rfl
        rw [e37]
        have fF : ∀ z, z ≠ 10 → z ≠ 11 → z ≠ 12 → N' z = M z := fun z z1 z2 z3 => (a3 z z1 z2 z3).trans (g4 z z1 z2 z3)
        have bk := bD k hkn
        unfold f_X11_dearest_37
        rw [i_1]
        match k, g1, g2 with
        | 0, g1, g2 =>
          rw [g1, show deV D 0 = (-1 : Int32) from rfl]
          refine ⟨_, rfl, ?_, fun j hj => ?_, rfl, fF, a4⟩
          · rw [show min (0 + 1) n = 1 by omega]; rfl
          · rw [show j = 0 by omega]; rfl
        | k + 1, g1, g2 =>
          have hle := giK_le D k
          have bj := bD (giK D k) (by omega)
          rw [g1, show deV D (k + 1) = nI (giK D k) from rfl, g2 k rfl, decide_eq_false fun z => nI_pos (show giK D k < 2 ^ 31 by omega) (by rw [z]; decide), cond_false, i_le (by omega) (by omega)]
          by_cases c : D (giK D k) < D (k + 1)
          · rw [decide_eq_false (by omega), cond_false]
            have ei : giK D (k + 1) = k + 1 := by rw [giK_s, if_pos c]
            refine ⟨_, rfl, ?_, fun j hj => ?_, rfl, fF, a4⟩
            · rw [show min (k + 1 + 1) n = k + 1 + 1 by omega]
              show nI (k + 1) = nI (giK D (k + 1))
              rw [ei]
            · rw [show j = k + 1 by omega, ei]
          · rw [decide_eq_true (by omega), cond_true]
            have ei : giK D (k + 1) = giK D k := by rw [giK_s, if_neg c]
            refine ⟨_, rfl, ?_, fun j hj => ?_, rfl, fF, a4⟩
            · rw [show min (k + 1 + 1) n = k + 1 + 1 by omega]
              show nI (giK D k) = nI (giK D (k + 1))
              rw [ei]
            · rw [show j = k + 1 by omega, ei]
      · rw [decide_eq_false hkn, Bool.not_false, cond_true]
        refine ⟨_, rfl, ?_, fun j hj => ?_, rfl, g4, g5⟩
        · rw [show min (k + 1) n = min k n by omega]; exact g1
        · exact g2 j (by omega)
    · obtain ⟨a, b, c, Y⟩ := s
      obtain ⟨g1, g2, g3, g4, g5⟩ := hs'
      dsimp only at g1 g2 g3 g4 g5
      subst g3
      show ∃ M', f_X11_dearest_6 a b (nI 8) Y = _ ∧ _
      unfold f_X11_dearest_6
      rw [bif_t i_88, g1, show min 8 n = n by omega]
      exact ⟨_, rfl, g4, g5⟩
  obtain ⟨M1, c1, c2, c3⟩ := hC
  refine ⟨OpA.q h c1 (CQ.of fun z hz => c2 z (fun e => by subst e; cases hz) (fun e => by subst e; cases hz) (fun e => by subst e; cases hz)) fun h1 e1 => ?_, fun v M1' e => by rw [c1] at e; cases e; exact c3⟩
  have hM : ∃ M2, f_X12_dearest M1 = some (deV D n, M2) ∧ ∀ z, z ≠ 230 → M2 z = mst M1 215 0 0 z := by
    unfold f_X12_dearest f_X12_dearest_l9
    rw [wr_e]
    refine wh_V (fun k (s : Int32 × Int32 × Int32 × mM) => s.1 = deV D k ∧ s.2.1 = deG G k ∧ s.2.2.1 = nI k ∧ ∀ z, z ≠ 230 → s.2.2.2 z = mst M1 215 0 0 z) _ _ n _ _ ⟨rfl, rfl, rfl, fun _ _ => rfl⟩ (fun k hk s hs' => ?_) (fun s hs' => ?_) (by omega)
    · obtain ⟨a, b, c, Y⟩ := s
      obtain ⟨g1, g2, g3, g4⟩ := hs'
      dsimp only at g1 g2 g3 g4
      subst g3
      have Y216 : Y 216 = M 216 := by rw [g4 216 (by decide), mst_no (by decide), e1]
      have hn' : Y 216 0 = nI n := by rw [Y216]; exact hn
      obtain ⟨q1, q2, q3⟩ := ei_b h8 hk
      obtain ⟨X', a1, a2, a3⟩ := m_laysP (X := Y) (e := eiN n k) (x := 100) (fu := fuN n (M 216)) hn' h8 (by decide) (fun j hj => by rw [Y216]; exact fuN_p h.wf hj) (fsN_b (fuN_b h.wf)) (h := 2) (by decide) (by decide) q2 (but := f_X11_bit (nI k)) fun s hs1 => sb_but h8 hk hs1
      have few := m_fewest (X := X') (e := eiN n k) (x := 100) (fu := fuN n (M 216)) (by rw [a2 216 (by decide)]; exact hn') h8 (h := 2) fun t ht => by
        have := a3 1 (by decide) t ht
        rw [show 256 * (2 - 1 - 1) + t = t by omega] at this
        exact this
      have eG : mnK (fun _ => true) (rR (eiN n k) 100 (fuN n (M 216)) (2 ^ n) 2) (2 ^ n) = G k := by rw [hG]; rfl
      rw [eG] at few
      have bk := bG k hk
      have fF : ∀ z, z ≠ 230 → X' z = mst M1 215 0 0 z := fun z hz => (a2 z hz).trans (g4 z hz)
      show ∃ s', f_X12_dearest_9 a b (nI k) Y = some (.inr s') ∧ _
      unfold f_X12_dearest_9 f_X12_dearest_29
      rw [m_ppl hn', b1_s, bif_f (i_len hk h8), bitE, show (2 : Int32) = nI 2 from rfl, show (100 : Int32) = nI 100 from rfl, a1, b2_s, few, b1_s, i_1]
      match k, g1, g2 with
      | 0, g1, g2 =>
        rw [g1, g2, show deV D 0 = (-1 : Int32) from rfl, show deG G 0 = (-1 : Int32) from rfl]
        have hneg : decide (nI (G 0) ≤ (-1 : Int32)) = false := decide_eq_false fun z => nI_pos (show G 0 < 2 ^ 31 by omega) (Int32.lt_of_le_of_lt z (by decide))
        have hmx : mMax (-1 : Int32) (nI (G 0)) = nI (G 0) := by
          unfold mMax
          rw [if_pos (Int32.lt_of_lt_of_le (by decide) (nI_pos' (show G 0 < 2 ^ 31 by omega)))]
        rw [hneg, cond_false, hmx]
        exact ⟨_, rfl, rfl, rfl, rfl, fF⟩
      | k + 1, g1, g2 =>
        have hle := giK_le G k
        have bj := bG (giK G k) (by omega)
        have hmx : mMax (nI (G (giK G k))) (nI (G (k + 1))) = nI (if G (giK G k) < G (k + 1) then G (k + 1) else G (giK G k)) := by
          unfold mMax
          by_cases c : G (giK G k) < G (k + 1)
          · rw [if_pos c, if_pos (nI_lt c (by omega))]
          · rw [if_neg c, if_neg (nI_nlt (by omega) (by omega))]
        rw [g1, g2, show deV D (k + 1) = nI (giK D k) from rfl, show deG G (k + 1) = nI (G (giK G k)) from rfl, i_le (by omega) (by omega), hmx]
        by_cases c : G (giK G k) < G (k + 1)
        · have ei : giK G (k + 1) = k + 1 := by rw [giK_s, if_pos c]
          rw [decide_eq_false (by omega), cond_false, if_pos c]
          refine ⟨_, rfl, ?_, ?_, rfl, fF⟩
          · show nI (k + 1) = nI (giK D (k + 1))
            rw [eDG (k + 1) hk, ei]
          · show nI (G (k + 1)) = nI (G (giK G (k + 1)))
            rw [ei]
        · have ei : giK G (k + 1) = giK G k := by rw [giK_s, if_neg c]
          rw [decide_eq_true (by omega), cond_true, if_neg c]
          refine ⟨_, rfl, ?_, ?_, rfl, fF⟩
          · show nI (giK D k) = nI (giK D (k + 1))
            rw [eDG (k + 1) hk, ei, eDG k (by omega)]
          · show nI (G (giK G k)) = nI (G (giK G (k + 1)))
            rw [ei]
    · obtain ⟨a, b, c, Y⟩ := s
      obtain ⟨g1, g2, g3, g4⟩ := hs'
      dsimp only at g1 g2 g3 g4
      subst g3
      have hn' : Y 216 0 = nI n := by rw [g4 216 (by decide), mst_no (by decide), e1]; exact hn
      show ∃ M', f_X12_dearest_9 a b (nI n) Y = _ ∧ _
      unfold f_X12_dearest_9
      rw [m_ppl hn', b1_s, bif_t (i_lee n), g1]
      exact ⟨_, rfl, g4⟩
  obtain ⟨M2, d1, d2⟩ := hM
  exact ⟨M2, d1, rq_00.tr (RQ.of (fun z _ _ _ _ z5 => d2 z (by omega)) fun k _ => by rw [d2 215 (by decide)])⟩
end
