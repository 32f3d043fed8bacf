/-! weakest -/
section
variable {n : Nat} {M : mM}
/-- what one who holds could still bear, of a world that stands -/
def spN (n : Nat) (W : Nat → Int32) (p : Nat) : Nat := (pv W p 2 - rCar n W (fun _ => 0) p).toInt.toNat
theorem sp_n (h : Rl n M) {p : Nat} (hp : p < n) (hh : hoB (M 216) p = true) : pv (M 216) p 2 - rCar n (M 216) (fun _ => 0) p = nI (spN n (M 216) p) ∧ spN n (M 216) p ≤ 999 := by
  have h8 := h.h8
  obtain ⟨x, hx, ex⟩ := (h.wf.2.2.2.1 p hp).2.2.1
  have eL := (ld_n h.wf.sf (b := fun _ => 0) (show p < 8 by omega)).1
  have hg : gwS n (M 216) (fun _ => 0) = 0 := (or0.mp (of_decide_eq_true h.st)).1
  have h1 := hs_set8 (c := fun p => decide (p < n) && (hoB (M 216) p && !decide (rCar n (M 216) (fun _ => 0) p ≤ pv (M 216) p 2))) (show p < 8 by omega)
  rw [show setOf (fun p => decide (p < n) && (hoB (M 216) p && !decide (rCar n (M 216) (fun _ => 0) p ≤ pv (M 216) p 2))) = 0 from hg, hs_0, decide_eq_true hp, hh, Bool.true_and, Bool.true_and, eL, ex] at h1
  have hT := wT_le h.wf.sf
  have hl := (ld_n h.wf.sf (b := fun _ => 0) (show p < 8 by omega)).2
  rw [i_le (by omega) (by omega)] at h1
  have hle : nLd n (M 216) p ≤ x := by
    refine Classical.byContradiction fun hc => ?_
    rw [decide_eq_false hc] at h1
    cases h1
  have e : pv (M 216) p 2 - rCar n (M 216) (fun _ => 0) p = nI (x - nLd n (M 216) p) := by rw [ex, eL, pk_sub hle]
  unfold spN
  rw [e, i_toInt (by omega)]
  exact ⟨by congr 1, by omega⟩
def wkF (n : Nat) (W : Nat → Int32) (k : Nat) (s : Int32 × Nat) : Int32 × Nat := bif decide (k < n) && hoB W k then (bif decide (s.2 ≤ spN n W k) then s else (nI k, spN n W k)) else s
def wkS (n : Nat) (W : Nat → Int32) (k : Nat) : Int32 × Nat := itr (wkF n W) ((-1 : Int32), 1000000) k
theorem wkS_i (n : Nat) (W : Nat → Int32) : ∀ k, ((wkS n W k).1 = -1 ∧ (wkS n W k).2 = 1000000) ∨ ∃ j, j < n ∧ hoB W j = true ∧ (wkS n W k).1 = nI j ∧ (wkS n W k).2 = spN n W j := by
  intro k
  induction k with
  | zero => exact Or.inl ⟨rfl, rfl⟩
  | succ k ih =>
    show ((wkF n W k (wkS n W k)).1 = -1 ∧ (wkF n W k (wkS n W k)).2 = 1000000) ∨ ∃ j, j < n ∧ hoB W j = true ∧ (wkF n W k (wkS n W k)).1 = nI j ∧ (wkF n W k (wkS n W k)).2 = spN n W j
    unfold wkF
    cases e : decide (k < n) && hoB W k
    · exact ih
    · rw [Bool.and_eq_true] at e
      cases decide ((wkS n W k).2 ≤ spN n W k)
      · exact Or.inr ⟨k, of_decide_eq_true e.1, e.2, rfl, rfl⟩
      · exact ih
theorem wkS_n {W : Nat → Int32} (h8 : n ≤ 8) : wkS n W 8 = wkS n W n := itr_n (fun k h1 _ z => by unfold wkF; rw [decide_eq_false (by omega)]; rfl) 8 h8 (Nat.le_refl 8)
theorem C_weakest (h : Rl n M) : f_X11_weakest M = some (wkS n (M 216) 8).1 := by
  have h8 := h.h8
  unfold f_X11_weakest f_X11_weakest_l8
  rw [h.ho, b1_s]
  have sp : ∀ j, j < n → hoB (M 216) j = true → f_X9_spare 35 (nI j) M = some (nI (spN n (M 216) j)) := fun j hj hh => by
    unfold f_X9_spare
    rw [gd_t T35, gd_t (i_in (by omega) i_28), gd_t (i_in (by omega) i_28), i_ix (by omega), show M (35 + 3) j = pv (M 216) j 2 from (h.tr.pp hj).2.2.1, show M (35 + 7) j = rCar n (M 216) (fun _ => 0) j from h.ts.2.2 j (by omega), (sp_n h hj hh).1]
  refine wh_8e (fun k => ((wkS n (M 216) k).1, nI k)) _ rfl (fun k hk => ?_) ?_
  · have hi := wkS_i n (M 216) k
    show f_X11_weakest_8 _ (wkS n (M 216) k).1 (nI k) M = some (.inr ((wkF n (M 216) k (wkS n (M 216) k)).1, nI (k + 1)))
    generalize wkS n (M 216) k = s at hi ⊢
    unfold f_X11_weakest_8 wkF
    rw [bif_f (i_8 hk), has_hs (by omega), hs_hos hk, i_1]
    cases e : decide (k < n) && hoB (M 216) k
    · rw [cond_false, cond_false]
    · rw [Bool.and_eq_true] at e
      have hkn := of_decide_eq_true e.1
      have b1' := (sp_n h hkn e.2).2
      rw [cond_true, cond_true]
      rcases hi with ⟨e1, e2⟩ | ⟨j, hj, hh, e1, e2⟩
      · rw [e1, e2, show decide ((-1 : Int32) = -1) = true from rfl, cond_true, decide_eq_false (show ¬ 1000000 ≤ spN n (M 216) k by omega), cond_false]
      · have hne : decide (nI j = (-1 : Int32)) = false := decide_eq_false fun z => nI_pos (show j < 2 ^ 31 by omega) (by rw [z]; decide)
        have b2' := (sp_n h hj hh).2
        rw [e1, e2, hne, cond_false, sp k hkn e.2, b1_s, sp j hj hh, b1_s, i_le (by omega) (by omega)]
        cases decide (spN n (M 216) j ≤ spN n (M 216) k)
        · rw [cond_false, cond_false]
        · rw [cond_true, cond_true, e1]
  · show f_X11_weakest_8 _ _ (nI 8) M = _
    unfold f_X11_weakest_8
    rw [bif_t i_88]
theorem Op_weakest (h : Rl n M) : OpR M f_X11_weakest f_X12_weakest := by
  have h8 := h.h8
  have hn := h.hn
  have hM : ∃ M2, f_X12_weakest M = some ((wkS n (M 216) 8).1, M2) ∧ ∀ z, z ≠ 221 → M2 z = mst M 215 0 0 z := by
    have e' : mst M 215 0 0 216 = M 216 := mst_no (by decide)
    unfold f_X12_weakest f_X12_weakest_l9
    rw [wr_e, wkS_n h8]
    refine wh_V (fun k (s : Int32 × Int32 × Int32 × mM) => s.1 = (wkS n (M 216) k).1 ∧ s.2.1 = nI (wkS n (M 216) k).2 ∧ s.2.2.1 = nI k ∧ ∀ z, z ≠ 221 → s.2.2.2 z = mst M 215 0 0 z) _ _ n _ _ ⟨rfl, rfl, rfl, fun _ _ => rfl⟩ (fun k hk s hs' => ?_) (fun s hs' => ?_) (by omega)
    · obtain ⟨a, b, i, N⟩ := s
      obtain ⟨h1, h2, h3, h4⟩ := hs'
      dsimp only at h1 h2 h3 h4
      subst h1 h2 h3
      have N216 : N 216 = M 216 := (h4 216 (by decide)).trans e'
      have hi := wkS_i n (M 216) k
      have es : wkS n (M 216) (k + 1) = wkF n (M 216) k (wkS n (M 216) k) := rfl
      rw [es]
      generalize wkS n (M 216) k = s at hi ⊢
      have hb : s.2 ≤ 1000000 := by
        rcases hi with ⟨-, e⟩ | ⟨j, hj, hh, -, e⟩
        · omega
        · have := (sp_n h hj hh).2
          omega
      show ∃ s', f_X12_weakest_9 s.1 (nI s.2) (nI k) N = some (.inr s') ∧ _
      unfold f_X12_weakest_9 f_X12_weakest_22 f_X12_weakest_29 wkF
      rw [m_ppl (n := n) (by rw [N216]; exact hn), b1_s, bif_f (i_len hk h8), m_holds (by omega), b1_s, N216, decide_eq_true hk, Bool.true_and, i_1]
      cases e : hoB (M 216) k
      · rw [cond_false, cond_false, show (1000000 : Int32) = nI 1000000 from rfl, i_le (by omega) (by decide), decide_eq_true hb, cond_true, mMin_n (by omega) (by decide), Nat.min_eq_left hb]
        exact ⟨_, rfl, rfl, rfl, rfl, h4⟩
      · obtain ⟨M2, g1, g2⟩ := M_brn (W := M 216) (M := N) hn h8 N216 (k := k) (by omega)
        have sb := (sp_n h hk e).2
        have hsp : f_X12_spareOf (nI k) N = some (nI (spN n (M 216) k), M2) := by
          unfold f_X12_spareOf
          rw [b1_a (show f_X12_of (nI k) (2 : Int32) N = some (pv (M 216) k 2) from (m_of (c := 2) (by omega) (by decide)).trans (by rw [N216])), b2_a g1, (sp_n h hk e).1]
        rw [cond_true, cond_true, hsp, b2_s, i_le (by omega) (by omega), mMin_n (by omega) (by omega)]
        by_cases hle : s.2 ≤ spN n (M 216) k
        · rw [decide_eq_true hle, cond_true, cond_true, Nat.min_eq_left hle]
          exact ⟨_, rfl, rfl, rfl, rfl, fun z hz => (g2 z hz).trans (h4 z hz)⟩
        · rw [decide_eq_false hle, cond_false, cond_false, Nat.min_eq_right (by omega)]
          exact ⟨_, rfl, rfl, rfl, rfl, fun z hz => (g2 z hz).trans (h4 z hz)⟩
    · obtain ⟨a, b, i, N⟩ := s
      obtain ⟨h1, h2, h3, h4⟩ := hs'
      dsimp only at h1 h2 h3 h4
      subst h1 h2 h3
      have N216 : N 216 = M 216 := (h4 216 (by decide)).trans e'
      show ∃ M', f_X12_weakest_9 _ _ (nI n) N = _ ∧ _
      unfold f_X12_weakest_9
      rw [m_ppl (n := n) (by rw [N216]; exact hn), b1_s, bif_t (i_lee n)]
      exact ⟨_, rfl, h4⟩
  obtain ⟨M2, d1, d2⟩ := hM
  exact OpR.q h (C_weakest h) d1 (rq_00.tr (RQ.of (fun z _ _ z3 _ _ => d2 z z3) fun k _ => by rw [d2 215 (by decide)]))
end
