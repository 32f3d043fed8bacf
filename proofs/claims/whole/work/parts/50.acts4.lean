/-! acts: relieve, need -/
section
variable {n : Nat} {M : mM}
/-- the new one stands as the old one, which is not yet out -/
def wS2 (n : Nat) (W : Nat → Int32) (p o : Nat) : Nat → Int32 := pXn n W fun q c => if c = 5 then (if q = o then pv W p 5 else pv W q 5) else if c = 6 then (if q = o then pv W p 6 else bif hs (pv W q 6) p then pv W q 6 ||| f_X11_bit (nI o) else pv W q 6) else pv W q c
def wSw (n : Nat) (W : Nat → Int32) (p o : Nat) : Nat → Int32 := wDown n (wS2 n W p o) (f_X11_bit (nI p))
section
variable {W : Nat → Int32} {p o : Nat}
theorem wS_5 {q : Nat} (hq : q < n) (h8 : n ≤ 8) : pv (wS2 n W p o) q 5 = if q = o then pv W p 5 else pv W q 5 := by
  unfold wS2
  rw [pXn_in hq (by omega) (by decide), if_pos rfl]
theorem wS_6 {q : Nat} (hq : q < n) (h8 : n ≤ 8) : pv (wS2 n W p o) q 6 = if q = o then pv W p 6 else bif hs (pv W q 6) p then pv W q 6 ||| f_X11_bit (nI o) else pv W q 6 := by
  unfold wS2
  rw [pXn_in hq (by omega) (by decide), if_neg (by decide), if_pos rfl]
theorem wS_c {q c : Nat} (hq : q < 8) (hc : c < 7) (h5 : c ≠ 5) (h6 : c ≠ 6) : pv (wS2 n W p o) q c = pv W q c := by
  unfold wS2
  by_cases h : q < n
  · rw [pXn_in h hq hc, if_neg h5, if_neg h6]
  · rw [pXn_out (by omega) hq hc]
theorem wS_o {j : Nat} (hj : j < 8 ∨ 64 ≤ j) : wS2 n W p o j = W j := pXn_o hj
theorem wS_up {q : Nat} (hq : q < n) (h8 : n ≤ 8) (hp : upB W p = true) : upB (wS2 n W p o) q = (upB W q || decide (q = o)) := by
  unfold upB
  rw [wS_5 hq h8]
  by_cases h : q = o
  · rw [if_pos h, decide_eq_true h, Bool.or_true]
    exact hp
  · rw [if_neg h, decide_eq_false h, Bool.or_false]
theorem wS_sl {q : Nat} (hq : q < 8) : slB (wS2 n W p o) q = slB W q := by
  unfold slB
  rw [wS_c hq (by decide) (by decide) (by decide)]
theorem WF.self {W : Nat → Int32} (hw : WF n W) {p : Nat} (hp : p < n) : hs (pv W p 6) p = false := by
  cases e : hs (pv W p 6) p
  · rfl
  · exact absurd ((hw.2.2.1 p hp).2.2.2.2 p (by have := hw.2.1; omega) e).2.1 (i_s1 _)
theorem WF.sw2 (hw : WF n W) (hp : p < n) (ho : o < n) (hu : upB W p = true) (hd : upB W o = false) : WF n (wS2 n W p o) := by
  have h8 := hw.2.1
  obtain ⟨a0, a1, a2, a3, a4, a5, a6, a7⟩ := hw
  have q0 : ∀ q, q < n → upB W q = true → pv (wS2 n W p o) q 5 = pv W q 5 ∧ upB (wS2 n W p o) q = true := fun q hq g => by
    have : q ≠ o := fun e => by rw [e, hd] at g; cases g
    rw [wS_5 hq h8, if_neg this, wS_up hq h8 hu, g]
    exact ⟨rfl, rfl⟩
  refine ⟨by rw [wS_o (by decide)]; exact a0, a1, fun q hq => ?_, fun q hq => ?_, by rw [wS_o (by decide)]; exact a4, by rw [wS_o (by decide)]; exact a5, by rw [wS_o (by decide)]; exact a6, by rw [wS_o (by decide)]; exact a7⟩
  · obtain ⟨b1, b2, b3, b4, b5⟩ := a2 q hq
    obtain ⟨d1, d2, d3, d4, d5⟩ := a2 p hp
    rw [wS_c (by omega) (by decide) (by decide) (by decide), wS_5 hq h8, wS_6 hq h8]
    by_cases h : q = o
    · rw [if_pos h, if_pos h]
      refine ⟨b1, d2, d3, d4, fun x hx g => ?_⟩
      obtain ⟨c1, c2, c3⟩ := d5 x hx g
      rw [(q0 x c1 c3).1]
      exact ⟨c1, c2, (q0 x c1 c3).2⟩
    · rw [if_neg h, if_neg h]
      cases hc : hs (pv W q 6) p
      · rw [cond_false]
        refine ⟨b1, b2, b3, b4, fun x hx g => ?_⟩
        obtain ⟨c1, c2, c3⟩ := b5 x hx g
        rw [(q0 x c1 c3).1]
        exact ⟨c1, c2, (q0 x c1 c3).2⟩
      · rw [cond_true]
        obtain ⟨e1, e2, e3⟩ := b5 p (by omega) hc
        refine ⟨b1, b2, S8.or b3 (S8.bit (by omega)), fun z => ?_, fun x hx g => ?_⟩
        · have := b4 z
          rw [this, hs_0] at hc
          cases hc
        · rw [hs_or, hs_bit (by omega) (by omega), Bool.or_eq_true] at g
          rcases g with g | g
          · obtain ⟨c1, c2, c3⟩ := b5 x hx g
            rw [(q0 x c1 c3).1]
            exact ⟨c1, c2, (q0 x c1 c3).2⟩
          · have := of_decide_eq_true g
            subst this
            rw [wS_5 ho h8, if_pos rfl, wS_up ho h8 hu, decide_eq_true (rfl : o = o), Bool.or_true]
            exact ⟨ho, e2, rfl⟩
  · rw [wS_c (by omega) (by decide) (by decide) (by decide), wS_c (by omega) (by decide) (by decide) (by decide), wS_c (by omega) (by decide) (by decide) (by decide), wS_c (by omega) (by decide) (by decide) (by decide)]
    exact a3 q hq
def swK (p o : Nat) (b : Nat → Int32) (k : Nat) : Nat → Int32 := fun j => if j < k then (bif hs (b j) p then b j ||| f_X11_bit (nI o) else b j) else b j
theorem swK_s (b : Nat → Int32) (k : Nat) : (bif hs (swK p o b k k) p then upd (swK p o b k) k (swK p o b k k ||| f_X11_bit (nI o)) else swK p o b k) = swK p o b (k + 1) := by
  have e : swK p o b k k = b k := if_neg (by omega)
  rw [e]
  funext j
  cases h : hs (b k) p
  · rw [cond_false]
    unfold swK
    by_cases hj : j = k
    · subst hj; rw [if_neg (by omega), if_pos (by omega), h]; rfl
    · by_cases h2 : j < k
      · rw [if_pos h2, if_pos (by omega)]
      · rw [if_neg h2, if_neg (by omega)]
  · rw [cond_true]
    by_cases hj : j = k
    · subst hj
      rw [upd_at]
      unfold swK
      rw [if_pos (by omega), h]; rfl
    · rw [upd_ne hj]
      unfold swK
      by_cases h2 : j < k
      · rw [if_pos h2, if_pos (by omega)]
      · rw [if_neg h2, if_neg (by omega)]
/-- the class's swap -/
theorem TR.sw {t : Nat} {N : mM} (h : TR n W N t) (hw : WF n W) (hp : p < n) (ho : o < n) (hu : upB W p = true) (hd : upB W o = false) (hT : mTwB t = true) : ∃ M1, f_X9_swap t (nI p) (nI o) N = some ((), M1) ∧ TR n (wSw n W p o) M1 t ∧ ∀ z, z ≠ t → z ≠ t + 5 → z ≠ t + 6 → M1 z = N z := by
  have h8 := hw.2.1
  have hpo : p ≠ o := fun e => by rw [e, hd] at hu; cases hu
  have gp := h.pp hp
  have e5 : N (t + 5) p = pv W p 5 := gp.2.2.2.2.2 hu
  have hr : pv W p 5 ≠ -1 := fun e => by unfold upB at hu; rw [e] at hu; cases hu
  have hself := hw.self hp
  -- what is left when the loop is done
  let N1 : mM := rs N (t + 6) (swK p o (N (t + 6)) 8)
  have eN : N1 = rs N (t + 6) (swK p o (N (t + 6)) 8) := rfl
  have h6p : N1 (t + 6) p = pv W p 6 := by
    rw [eN, rs_at]
    unfold swK
    rw [if_pos (by omega), gp.2.2.2.2.1, hself]
    rfl
  have tr2 : TR n (wS2 n W p o) (mst (mst (mst N1 t 1 (N1 t 1 ||| f_X11_bit (nI o))) (t + 5) o (pv W p 5)) (t + 6) o (pv W p 6)) t := by
    obtain ⟨-, a1, a2, a3, a4, a5, a6, a7, -⟩ := id h
    have eF : ∀ z, z ≠ t → z ≠ t + 5 → z ≠ t + 6 → mst (mst (mst N1 t 1 (N1 t 1 ||| f_X11_bit (nI o))) (t + 5) o (pv W p 5)) (t + 6) o (pv W p 6) z = N z := fun z h1 h2 h3 => by rw [mst_no h3, mst_no h2, mst_no h1, eN, rs_ne h3]
    have e0 : ∀ j, j ≠ 1 → mst (mst (mst N1 t 1 (N1 t 1 ||| f_X11_bit (nI o))) (t + 5) o (pv W p 5)) (t + 6) o (pv W p 6) t j = N t j := fun j hj => by rw [mst_no (by omega), mst_no (by omega), mst_nk hj, eN, rs_ne (by omega)]
    refine h.up (e0 0 (by decide)) ?_ ?_ ?_ ?_ ?_ ?_ ?_ (fun q hq => ?_) (fun q hq hq8 => ?_) (eF _ (by omega) (by omega) (by omega)) (eF _ (by omega) (by omega) (by omega)) (wS_o (by decide)) (fun j h1 h2 => wS_o (by omega))
    · rw [mst_no (by omega), mst_no (by omega), mst_oo, eN, rs_ne (by omega), a1]
      refine S8.ext (S8.or (S8.set _) (S8.bit (by omega))) (S8.set _) fun j hj => ?_
      rw [hs_or, hs_bit (by omega) (by omega), hs_ups hj, hs_ups hj]
      by_cases hjn : j < n
      · rw [wS_up hjn h8 hu, decide_eq_true hjn, Bool.true_and, Bool.true_and]
        by_cases e : j = o
        · rw [decide_eq_true e, decide_eq_true e.symm]
        · rw [decide_eq_false e, decide_eq_false (Ne.symm e)]
      · rw [decide_eq_false hjn, decide_eq_false (by omega)]; rfl
    · rw [e0 2 (by decide), a2]
      exact set_congr fun q hq => by rw [wS_sl hq]
    · rw [e0 3 (by decide), wS_o (by decide), a3]
    · rw [e0 4 (by decide), wS_o (by decide), a4]
    · rw [e0 5 (by decide), wS_o (by decide), a5]
    · rw [e0 6 (by decide), wS_o (by decide), a6]
    · rw [e0 7 (by decide), wS_o (by decide), a7]
    · obtain ⟨b0, b1, b2, b3, b4, b5⟩ := h.pp hq
      rw [eF (t + 1) (by omega) (by omega) (by omega), eF (t + 2) (by omega) (by omega) (by omega), eF (t + 3) (by omega) (by omega) (by omega), eF (t + 4) (by omega) (by omega) (by omega), wS_c (by omega) (by decide) (by decide) (by decide), wS_c (by omega) (by decide) (by decide) (by decide), wS_c (by omega) (by decide) (by decide) (by decide), wS_c (by omega) (by decide) (by decide) (by decide), wS_5 hq h8, wS_6 hq h8, wS_up hq h8 hu]
      refine ⟨b0, b1, b2, b3, ?_, fun g => ?_⟩
      · by_cases e : q = o
        · subst e
          rw [if_pos rfl, mst_oo]
        · rw [if_neg e, mst_nk e, mst_no (by omega), mst_no (by omega), eN, rs_at]
          unfold swK
          rw [if_pos (by omega), b4]
      · rw [mst_no (by omega)]
        by_cases e : q = o
        · subst e
          rw [if_pos rfl, mst_oo]
        · rw [decide_eq_false e, Bool.or_false] at g
          rw [if_neg e, mst_nk e, mst_no (by omega), eN, rs_ne (by omega), b5 g]
    · rw [eF (t + 3) (by omega) (by omega) (by omega), eF (t + 4) (by omega) (by omega) (by omega), mst_nk (by omega), mst_no (by omega), mst_no (by omega), eN, rs_at]
      obtain ⟨c1, c2, c3⟩ := h.p0 hq hq8
      refine ⟨c1, c2, ?_⟩
      unfold swK
      rw [if_pos hq8, c3, hs_0]
      rfl
  obtain ⟨M1, e1, t1, f1⟩ := tr2.dn (set := f_X11_bit (nI p)) h8 hT
  refine ⟨M1, ?_, t1, fun z h1 h2 h3 => by rw [f1 z h1 h3, mst_no h3, mst_no h2, mst_no h1, eN, rs_ne h3]⟩
  unfold f_X9_swap f_X9_swap_l2
  rw [gd_t hT]
  refine wh_8e (fun k => (nI k, rs N (t + 6) (swK p o (N (t + 6)) k))) _ ?_ (fun k hk => ?_) ?_
  · have : swK p o (N (t + 6)) 0 = N (t + 6) := by
      funext j
      exact if_neg (by omega)
    rw [this, rs_self]
    rfl
  · show f_X9_swap_2 t (nI p) (nI o) (nI k) _ = _
    try dsimp only
    unfold f_X9_swap_2
    rw [bif_f (i_8 hk), ← swK_s]
    simp only [gd_t (i_in hk i_28), i_ix (show k < 2 ^ 31 by omega), rs_at, rs_st, has_hs (show p < 32 by omega), wr_e, i_1]
    cases hs (swK p o (N (t + 6)) k k) p <;> rfl
  · show f_X9_swap_2 t (nI p) (nI o) (nI 8) N1 = _
    unfold f_X9_swap_2
    rw [bif_t i_88, gd_t (i_in (by omega) (by decide)), gd_t (i_in (by omega) (by decide)), i_ix (by omega), h6p, show N1 (t + 5) = N (t + 5) from rs_ne (by omega), e5, T_bring hT (by omega), b2_s, b2_a e1]
/-- the reference's change -/
theorem m_changes {Mo : mM} (hw : WF n (Mo 216)) (hp : p < n) (ho : o < n) (hu : upB (Mo 216) p = true) (hd : upB (Mo 216) o = false) : f_X12_changes (nI p) (nI o) Mo = some ((), rs Mo 216 (wSw n (Mo 216) p o)) := by
  have h8 := hw.2.1
  have hn := hw.1
  have hself := hw.self hp
  have hpo : p ≠ o := fun e => by rw [e, hd] at hu; cases hu
  unfold f_X12_changes
  rw [show (5 : Int32) = nI 5 from rfl, show (6 : Int32) = nI 6 from rfl, m_of (by omega) (by decide), b1_s, i_at, gd_t (i_in (by omega) (by decide)), wr_e, m_of (by omega) (by decide), b1_s, i_at, gd_t (i_in (by omega) (by decide)), wr_e, i_ix (by omega), i_ix (by omega), mst_rs Mo, rs_at, rs_st, pv_un (by decide) (by decide) (Or.inr (by decide))]
  generalize hW1 : upd (upd (Mo 216) (8 + 7 * o + 5) (pv (Mo 216) p 5)) (8 + 7 * o + 6) (pv (Mo 216) p 6) = W1
  have p5 : ∀ q, pv W1 q 5 = if q = o then pv (Mo 216) p 5 else pv (Mo 216) q 5 := fun q => by
    rw [← hW1, pv_un (by decide) (by decide) (Or.inr (by decide)), pv_upd (by decide) (by decide)]
    by_cases h : q = o
    · rw [if_pos ⟨h, rfl⟩, if_pos h]
    · rw [if_neg (fun z => h z.1), if_neg h]
  have p6 : ∀ q, pv W1 q 6 = if q = o then pv (Mo 216) p 6 else pv (Mo 216) q 6 := fun q => by
    rw [← hW1, pv_upd (by decide) (by decide)]
    by_cases h : q = o
    · rw [if_pos ⟨h, rfl⟩, if_pos h]
    · rw [if_neg (fun z => h z.1), if_neg h, pv_un (by decide) (by decide) (Or.inr (by decide))]
  have pc : ∀ q c, c < 7 → c ≠ 5 → c ≠ 6 → pv W1 q c = pv (Mo 216) q c := fun q c hc h5 h6 => by
    rw [← hW1, pv_un (by decide) hc (Or.inr h6), pv_un (by decide) hc (Or.inr h5)]
  have po : ∀ j, (j < 8 ∨ 64 ≤ j) → W1 j = Mo 216 j := fun j hj => by
    rw [← hW1, upd_ne (by omega), upd_ne (by omega)]
  let F : Nat → Nat → Int32 := fun j => pX W1 fun q c => if q < j ∧ c = 6 then (bif hs (pv W1 q 6) p then pv W1 q 6 ||| f_X11_bit (nI o) else pv W1 q 6) else pv W1 q c
  have eF : ∀ j, F j = pX W1 fun q c => if q < j ∧ c = 6 then (bif hs (pv W1 q 6) p then pv W1 q 6 ||| f_X11_bit (nI o) else pv W1 q 6) else pv W1 q c := fun j => rfl
  have F0 : ∀ j, F j 0 = nI n := fun j => by rw [eF, pX_o (by decide), po 0 (by decide)]; exact hn
  have Fpv : ∀ j q c, q < 8 → c < 7 → pv (F j) q c = if q < j ∧ c = 6 then (bif hs (pv W1 q 6) p then pv W1 q 6 ||| f_X11_bit (nI o) else pv W1 q 6) else pv W1 q c := fun j q c hq hc => by rw [eF, pX_pv hq hc]
  unfold f_X12_changes_l22
  refine wh_ne (fun j => (nI j, rs Mo 216 (F j))) n _ (by omega) ?_ (fun j hj => ?_) ?_
  · have : F 0 = W1 := W_ext (fun q c hq hc => by rw [Fpv 0 q c hq hc, if_neg (by omega)]) (fun j hj => by rw [eF, pX_o hj])
    rw [this]
    rfl
  · show f_X12_changes_22 (nI p) (nI o) (nI j) _ = _
    try dsimp only
    unfold f_X12_changes_22
    have e6 : pv (F j) j 6 = pv W1 j 6 := by rw [Fpv j j 6 (by omega) (by decide), if_neg (by omega)]
    rw [m_ppl (n := n) (by rw [rs_at]; exact F0 j), b1_s, bif_f (i_len hj h8), show (6 : Int32) = nI 6 from rfl, m_of (by omega) (by decide), b1_s, mhas_hs (by omega), rs_at, e6, i_at, gd_t (i_in (by omega) (by decide)), gd_t (i_in (by omega) (by decide)), i_ix (by omega), wr_e, bitE, rs_st, i_1, show F j (8 + 7 * j + 6) = pv W1 j 6 from e6]
    have key : (bif hs (pv W1 j 6) p then upd (F j) (8 + 7 * j + 6) (pv W1 j 6 ||| f_X11_bit (nI o)) else F j) = F (j + 1) := by
      refine W_ext (fun q c hq hc => ?_) (fun i hi => ?_)
      · rw [Fpv (j + 1) q c hq hc]
        cases hb : hs (pv W1 j 6) p
        · rw [cond_false, Fpv j q c hq hc]
          by_cases h : q = j ∧ c = 6
          · obtain ⟨rfl, rfl⟩ := h
            rw [if_neg (by omega), if_pos ⟨by omega, rfl⟩, hb]; rfl
          · by_cases h2 : q < j ∧ c = 6
            · rw [if_pos h2, if_pos (by omega)]
            · rw [if_neg h2, if_neg (by omega)]
        · rw [cond_true, pv_upd (by decide) hc]
          by_cases h : q = j ∧ c = 6
          · obtain ⟨rfl, rfl⟩ := h
            rw [if_pos ⟨rfl, rfl⟩, if_pos ⟨by omega, rfl⟩, hb]; rfl
          · rw [if_neg h, Fpv j q c hq hc]
            by_cases h2 : q < j ∧ c = 6
            · rw [if_pos h2, if_pos (by omega)]
            · rw [if_neg h2, if_neg (by omega)]
      · rw [eF (j + 1), pX_o hi]
        cases hs (pv W1 j 6) p
        · rw [cond_false, eF j, pX_o hi]
        · rw [cond_true, upd_ne (by omega), eF j, pX_o hi]
    rw [← key]
    cases hs (pv W1 j 6) p <;> rfl
  · show f_X12_changes_22 (nI p) (nI o) (nI n) _ = _
    try dsimp only
    unfold f_X12_changes_22
    have e2 : F n = wS2 n (Mo 216) p o := by
      refine W_ext (fun q c hq hc => ?_) (fun i hi => by rw [eF, pX_o hi, po i hi, wS_o hi])
      rw [Fpv n q c hq hc]
      by_cases hqn : q < n
      · by_cases h6 : c = 6
        · subst h6
          rw [if_pos ⟨hqn, rfl⟩, wS_6 hqn h8, p6]
          by_cases e : q = o
          · rw [if_pos e, if_pos e, hself]; rfl
          · rw [if_neg e, if_neg e]
        · rw [if_neg (by omega)]
          by_cases h5 : c = 5
          · subst h5
            rw [wS_5 hqn h8, p5]
          · rw [wS_c hq hc h5 h6, pc q c hc h5 h6]
      · rw [if_neg (by omega)]
        unfold wS2
        rw [pXn_out (by omega) hq hc]
        by_cases h6 : c = 6
        · subst h6; rw [p6, if_neg (by omega)]
        · by_cases h5 : c = 5
          · subst h5; rw [p5, if_neg (by omega)]
          · exact pc q c hc h5 h6
    rw [m_ppl (n := n) (by rw [rs_at]; exact F0 n), b1_s, bif_t (i_lee n), m_comesOut (n := n) (by rw [rs_at]; exact F0 n) h8 hp, b2_s, rs_rs, rs_at, e2]
    rfl
end
def tRe (E : Nat) : Int32 := bif Nat.beq E 2 then 1 else bif Nat.beq E 0 then 2 else bif Nat.beq E 4 then 3 else 0
theorem M_rel1 (h : Rl n M) {p o : Int32} {Mo : mM} (e : Mo 216 = M 216) : f_X12_relieve p o Mo = f_X12_relieve_15 p o (!(isP n p && isP n o)) (mst Mo 215 0 0) := by
  unfold f_X12_relieve f_X12_relieve_12
  rw [wr_e, b1_a (m_nb h e), b1_a (m_nb h e)]
  cases isP n p <;> cases isP n o <;> simp only [Bool.not_true, Bool.not_false, Bool.and_true, Bool.and_false, cond_true, cond_false]
theorem M_rel2 (h : Rl n M) {k j : Nat} (hk : k < n) (hj : j < n) {Mo : mM} (e : Mo 216 = M 216) : f_X12_relieve (nI k) (nI j) Mo = f_X12_relieve_25 (nI k) (nI j) (decide (k = j)) (mst Mo 215 0 0) := by
  have h8 := h.h8
  rw [M_rel1 h e, isP_nI h8 hk, isP_nI h8 hj]
  unfold f_X12_relieve_15
  rw [m_tIf, dn, i_eq (by omega) (by omega), b2_s]
  cases decide (k = j) <;> simp only [Bool.not_true, Bool.not_false, Bool.and_true, cond_true, cond_false]
theorem m_rel25 {N : mM} {k j : Nat} (hk : k < 8) (hj : j < 8) : f_X12_relieve_25 (nI k) (nI j) false N = f_X12_relieve_40 (nI k) (nI j) (!(upB (N 216) k && !upB (N 216) j)) N := by
  unfold f_X12_relieve_25 f_X12_relieve_37
  rw [m_tIf, b2_s, cond_false, cond_false, m_isUp hk, b1_s, m_isUp hj, b1_s]
  cases upB (N 216) k
  · rw [cond_false, Bool.false_and, Bool.not_false]
  · cases upB (N 216) j
    · rw [cond_true, cond_false, Bool.not_false, Bool.and_true, Bool.not_true]
    · rw [cond_true, cond_true, Bool.not_true, Bool.and_false, Bool.not_false]
theorem M_rel3 (h : Rl n M) {k j : Nat} (hk : k < n) (hj : j < n) (hne : k ≠ j) {Mo : mM} (e : Mo 216 = M 216) : f_X12_relieve (nI k) (nI j) Mo = f_X12_relieve_40 (nI k) (nI j) (!(upB (M 216) k && !upB (M 216) j)) (mst Mo 215 0 0) := by
  have h8 := h.h8
  rw [M_rel2 h hk hj e, decide_eq_false hne, m_rel25 (by omega) (by omega), mst_no (show 216 ≠ 215 by decide), e]
theorem C_rel1 (h : Rl n M) {k j : Nat} (hk : k < n) (hj : j < n) : f_X11_relieve (nI k) (nI j) M = f_X11_relieve_12 (nI k) (nI j) (!decide (k = j)) M := by
  have h8 := h.h8
  unfold f_X11_relieve
  rw [C_mustP h, isP_nI h8 hk, cond_true, tb_l, C_mustP h, isP_nI h8 hj, cond_true, tb_l, i_eq (by omega) (by omega)]
  cases decide (k = j) <;> simp only [Bool.not_true, Bool.not_false, cond_true, cond_false]
theorem C_rel2 (h : Rl n M) {k j : Nat} (hk : k < n) (hj : j < n) (hne : k ≠ j) : f_X11_relieve (nI k) (nI j) M = tb (f_X11_mustBeSo (upB (M 216) k && !upB (M 216) j) M) (fun v3 M3 => b2 (f_X9_copyFrom 47 35 M3) (fun v4 M4 => b2 (f_X9_swap 47 (nI k) (nI j) M4) (fun v5 M5 => tb (f_X11_keepNext M5) (fun v6 M6 => gd (mIn (nI j) 8) (some (.inl (M6 42 (ix (nI j))), M6)))))) := by
  have h8 := h.h8
  have hcs : f_X9_canSwap 35 (nI k) (nI j) M = some (upB (M 216) k && !upB (M 216) j) := by
    unfold f_X9_canSwap
    rw [gd_t T35, h.up, has_hs (by omega), has_hs (by omega), hs_ups (by omega), hs_ups (by omega), decide_eq_true hk, decide_eq_true hj, Bool.true_and, Bool.true_and]
    cases upB (M 216) k <;> cases upB (M 216) j <;> rfl
  rw [C_rel1 h hk hj, decide_eq_false hne]
  unfold f_X11_relieve_12 f_X11_mustBeOne
  rw [Bool.not_false, cond_true, tb_l, hcs, b1_s]
theorem wSw_o {W : Nat → Int32} {p o j : Nat} (hj : j < 8 ∨ 64 ≤ j) : wSw n W p o j = W j := (wD_o hj).trans (wS_o hj)
theorem WF.sw {W : Nat → Int32} {p o : Nat} (hw : WF n W) (hp : p < n) (ho : o < n) (hu : upB W p = true) (hd : upB W o = false) : WF n (wSw n W p o) := (hw.sw2 hp ho hu hd).dn
theorem Op_rel_main (h : Rl n M) {k j : Nat} (hk : k < n) (hj : j < n) (hu : upB (M 216) k = true) (hd : upB (M 216) j = false) : OpT M (f_X11_relieve (nI k) (nI j)) (f_X12_relieve (nI k) (nI j)) tRe := by
  have h8 := h.h8
  have hne : k ≠ j := fun e => by rw [e, hd] at hu; cases hu
  obtain ⟨e1, t1, f1⟩ := C_to47 h
  obtain ⟨M5, e2, t2, f2⟩ := t1.1.sw h.wf hk hj hu hd T47
  refine OpT.act (t := 3) h (CQ.hi fun z hz => by rw [f2 z (by omega) (by omega) (by omega), f1 z (by omega)]) (h.wf.sw hk hj hu hd) t2 (wSw_o (by decide)) (fun i h1 => wSw_o (by omega)) (fa := fun M7 => some (M7 42 j)) (fb := fun Mx => b2 (f_X12_borneBy (nI j) Mx) (fun v10 M10 => some (v10, M10))) (v := rCar n (wSw n (M 216) k j) (fun _ => 0) j) (fun M6 t6 => by rw [show M6 42 j = M6 (35 + 7) j from rfl, t6.2.2 j (by omega)]) (fun Mx ex => ?_) rfl (by decide) ?_ (fun Mo e => ?_)
  · obtain ⟨M2, g1, g2⟩ := M_brn (n := n) (k := j) ((wSw_o (by decide)).trans h.hn) h8 ex (by omega)
    exact ⟨M2, by rw [b2_a g1], g2⟩
  · rw [C_rel2 h hk hj hne, hu, hd]
    unfold f_X11_mustBeSo
    rw [Bool.not_false, Bool.and_true, cond_true, tb_l, b2_a e1, b2_a e2]
    simp only [gd_t (i_in (show j < 8 by omega) i_28), i_ix (show j < 2 ^ 31 by omega), b1_s]
  · rw [M_rel3 h hk hj hne e, hu, hd]
    unfold f_X12_relieve_40
    have hn' : rs (mst Mo 215 0 0) 219 (va_cpy (M 216) (Mo 219) 0 0 424) 216 = M 216 := by rw [rs_ne (by decide), mst_no (by decide), e]
    rw [Bool.not_false, Bool.and_true, Bool.not_true, m_tIf, b2_s, cond_false, cond_false, b2_a (m_kp e), b2_a (m_changes (n := n) (by rw [hn']; exact h.wf) hk hj (by rw [hn']; exact hu) (by rw [hn']; exact hd)), hn']
theorem Op_relieve (h : Rl n M) {p o : Int32} : OpT M (f_X11_relieve p o) (f_X12_relieve p o) tRe := by
  have h8 := h.h8
  have thr1 : (isP n p && isP n o) = false → f_X11_relieve p o M = some (.inr 2, M) → OpT M (f_X11_relieve p o) (f_X12_relieve p o) tRe := fun hc e1 => by
    refine OpT.q h (r := .inr 2) (M1 := M) e1 CQ.rf (fun Mo e hr => ⟨0, mst (mst Mo 215 0 0) 215 0 1, ?_, rq_thr.1, rq_thr.2.1, rq_thr.2.2, by decide⟩)
    rw [M_rel1 h e, hc]
    unfold f_X12_relieve_15
    rw [m_tIf, b2_s, Bool.not_false, cond_true, cond_true]
  cases hP : isP n p
  · refine thr1 (by rw [hP]; rfl) ?_
    unfold f_X11_relieve
    rw [C_mustP h, hP, cond_false, tb_r]
  · cases hO : isP n o
    · refine thr1 (by rw [hO, Bool.and_false]) ?_
      unfold f_X11_relieve
      rw [C_mustP h, hP, cond_true, tb_l, C_mustP h, hO, cond_false, tb_r]
    · obtain ⟨k, hk, rfl⟩ := isP_of h8 hP
      obtain ⟨j, hj, rfl⟩ := isP_of h8 hO
      by_cases hkj : k = j
      · refine OpT.q h (r := .inr 0) (M1 := M) ?_ CQ.rf (fun Mo e hr => ⟨0, mst (mst Mo 215 0 0) 215 0 2, ?_, rq_thr.1, rq_thr.2.1, rq_thr.2.2, by decide⟩)
        · rw [C_rel1 h hk hj, decide_eq_true hkj]
          unfold f_X11_relieve_12 f_X11_mustBeOne
          rw [Bool.not_true, cond_false, tb_r]
        · rw [M_rel2 h hk hj e, decide_eq_true hkj]
          unfold f_X12_relieve_25
          rw [m_tIf, b2_s, cond_true, cond_true]
      · cases hT : upB (M 216) k && !upB (M 216) j
        · refine OpT.q h (r := .inr 4) (M1 := M) ?_ CQ.rf (fun Mo e hr => ⟨0, mst (mst Mo 215 0 0) 215 0 3, ?_, rq_thr.1, rq_thr.2.1, rq_thr.2.2, by decide⟩)
          · rw [C_rel2 h hk hj hkj, hT]
            unfold f_X11_mustBeSo
            rw [cond_false, tb_r]
          · rw [M_rel3 h hk hj hkj e, hT]
            unfold f_X12_relieve_40
            rw [m_tIf, b2_s, Bool.not_false, cond_true, cond_true]
        · rw [Bool.and_eq_true] at hT
          refine Op_rel_main h hk hj hT.1 ?_
          cases z : upB (M 216) j
          · rfl
          · rw [z] at hT; exact absurd hT.2 (by decide)
end
