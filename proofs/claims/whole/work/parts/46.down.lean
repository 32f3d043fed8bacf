/-! those who come down -/
def dnF (W : Nat → Int32) (set : Int32) (p c : Nat) : Int32 := if c = 5 then (bif hs set p then (-1 : Int32) else pv W p 5) else if c = 6 then (bif hs set p then (0 : Int32) else pv W p 6 &&& (set ^^^ (-1 : Int32))) else pv W p c
def wDown (n : Nat) (W : Nat → Int32) (set : Int32) : Nat → Int32 := pXn n W (dnF W set)
theorem i_and0 (x : Int32) : (0 : Int32) &&& x = 0 := Int32.zero_and
theorem hs_nn {a : Int32} {j : Nat} (h : j < 32) : hs (a ^^^ (-1 : Int32)) j = !hs a j := hs_not h
section
variable {n : Nat} {W : Nat → Int32} {set : Int32}
theorem wD_5 {p : Nat} (hp : p < n) (h8 : n ≤ 8) : pv (wDown n W set) p 5 = bif hs set p then (-1 : Int32) else pv W p 5 := by
  unfold wDown
  rw [pXn_in hp (by omega) (by decide)]
  rfl
theorem wD_6 {p : Nat} (hp : p < n) (h8 : n ≤ 8) : pv (wDown n W set) p 6 = bif hs set p then (0 : Int32) else pv W p 6 &&& (set ^^^ (-1 : Int32)) := by
  unfold wDown
  rw [pXn_in hp (by omega) (by decide)]
  rfl
theorem wD_c {p c : Nat} (hp : p < 8) (hc : c < 7) (h5 : c ≠ 5) (h6 : c ≠ 6) : pv (wDown n W set) p c = pv W p c := by
  unfold wDown
  by_cases h : p < n
  · rw [pXn_in h hp hc]
    unfold dnF
    rw [if_neg h5, if_neg h6]
  · rw [pXn_out (by omega) hp hc]
theorem wD_o {k : Nat} (h : k < 8 ∨ 64 ≤ k) : wDown n W set k = W k := pXn_o h
theorem wD_out {p c : Nat} (hp : n ≤ p) (h8 : p < 8) (hc : c < 7) : pv (wDown n W set) p c = pv W p c := pXn_out hp h8 hc
theorem wD_up {p : Nat} (hp : p < n) (h8 : n ≤ 8) : upB (wDown n W set) p = (upB W p && !hs set p) := by
  unfold upB
  rw [wD_5 hp h8]
  cases hs set p
  · rw [cond_false, Bool.not_false, Bool.and_true]
  · rw [cond_true, Bool.not_true, Bool.and_false]; rfl
theorem wD_sl {p : Nat} (hp : p < 8) : slB (wDown n W set) p = slB W p := by
  unfold slB
  rw [wD_c hp (by decide) (by decide) (by decide)]
theorem wD_ho {p : Nat} (hp : p < n) (h8 : n ≤ 8) : hoB (wDown n W set) p = (hoB W p && !hs set p) := by
  unfold hoB
  rw [wD_up hp h8, wD_sl (by omega)]
  cases upB W p <;> cases slB W p <;> cases hs set p <;> rfl
theorem wD_ups (h8 : n ≤ 8) : upS n (wDown n W set) = upS n W &&& (set ^^^ (-1 : Int32)) := S8.ext (S8.set _) (S8.andl (S8.set _)) fun j hj => by
  rw [hs_and, hs_nn (by omega), hs_ups hj, hs_ups hj]
  by_cases h : j < n
  · rw [wD_up h h8, Bool.and_assoc]
  · rw [decide_eq_false h]; rfl
theorem wD_sls : slS n (wDown n W set) = slS n W := set_congr fun p hp => by rw [wD_sl hp]
theorem wD_hos (h8 : n ≤ 8) : hoS n (wDown n W set) = hoS n W &&& (set ^^^ (-1 : Int32)) := S8.ext (S8.set _) (S8.andl (S8.set _)) fun j hj => by
  rw [hs_and, hs_nn (by omega), hs_hos hj, hs_hos hj]
  by_cases h : j < n
  · rw [wD_ho h h8, Bool.and_assoc]
  · rw [decide_eq_false h]; rfl
theorem WF.dn (hw : WF n W) : WF n (wDown n W set) := by
  have h8 := hw.2.1
  obtain ⟨a0, a1, a2, a3, a4, a5, a6, a7⟩ := hw
  refine ⟨by rw [wD_o (by decide)]; exact a0, a1, fun p hp => ?_, fun p hp => ?_, by rw [wD_o (by decide)]; exact a4, by rw [wD_o (by decide)]; exact a5, by rw [wD_o (by decide)]; exact a6, by rw [wD_o (by decide)]; exact a7⟩
  · obtain ⟨b1, b2, b3, b4, b5⟩ := a2 p hp
    rw [wD_c (by omega) (by decide) (by decide) (by decide), wD_5 hp h8, wD_6 hp h8]
    refine ⟨b1, ?_, ?_, ?_, fun q hq g => ?_⟩
    · cases hs set p
      · exact b2
      · exact Or.inl rfl
    · cases hs set p
      · exact S8.andl b3
      · exact S8.zero
    · cases hs set p
      · intro z
        rw [cond_false, b4 z]
        exact i_and0 _
      · intro _; rfl
    · cases e : hs set p
      · rw [e, cond_false, hs_and, hs_nn (by omega), Bool.and_eq_true] at g
        obtain ⟨c1, c2, c3⟩ := b5 q hq g.1
        have c4 : hs set q = false := by
          cases z : hs set q
          · rfl
          · rw [z] at g; exact absurd g.2 (by decide)
        rw [wD_5 c1 h8, wD_up c1 h8, c4, c3]
        exact ⟨c1, c2, rfl⟩
      · rw [e, cond_true, hs_0] at g
        cases g
  · rw [wD_c (by omega) (by decide) (by decide) (by decide), wD_c (by omega) (by decide) (by decide) (by decide), wD_c (by omega) (by decide) (by decide) (by decide), wD_c (by omega) (by decide) (by decide) (by decide)]
    exact a3 p hp
theorem wD_wD {b : Int32} (h8 : n ≤ 8) : wDown n (wDown n W set) b = wDown n W (set ||| b) := by
  refine W_ext (fun p c hp hc => ?_) (fun k hk => ?_)
  · by_cases h : p < n
    · by_cases h5 : c = 5
      · subst h5
        rw [wD_5 h h8, wD_5 h h8, wD_5 h h8, hs_or]
        cases hs set p <;> cases hs b p <;> rfl
      · by_cases h6 : c = 6
        · subst h6
          rw [wD_6 h h8, wD_6 h h8, wD_6 h h8, hs_or]
          cases hs set p <;> cases hs b p <;> simp only [cond_true, cond_false, Bool.or_true, Bool.or_false, i_and0]
          refine hs_ext fun j hj => ?_
          rw [hs_and, hs_and, hs_and, hs_nn hj, hs_nn hj, hs_nn hj, hs_or]
          cases hs (pv W p 6) j <;> cases hs set j <;> cases hs b j <;> rfl
        · rw [wD_c hp hc h5 h6, wD_c hp hc h5 h6, wD_c hp hc h5 h6]
    · rw [wD_out (by omega) hp hc, wD_out (by omega) hp hc, wD_out (by omega) hp hc]
  · rw [wD_o hk, wD_o hk, wD_o hk]
theorem wD_0 : wDown n W 0 = W := by
  refine W_ext (fun p c hp hc => ?_) (fun k hk => wD_o hk)
  by_cases h : p < n
  · unfold wDown
    rw [pXn_in h hp hc]
    unfold dnF
    rw [hs_0, cond_false, cond_false]
    by_cases h5 : c = 5
    · rw [if_pos h5, h5]
    · rw [if_neg h5]
      by_cases h6 : c = 6
      · rw [if_pos h6, h6]
        refine hs_ext fun j hj => ?_
        rw [hs_and, hs_nn hj, hs_0, Bool.not_false, Bool.and_true]
      · rw [if_neg h6]
  · exact wD_out (by omega) hp hc
/-- the class's -/
def dnK (set : Int32) (b : Nat → Int32) (k : Nat) : Nat → Int32 := fun j => if j < k then (bif hs set j then (0 : Int32) else b j &&& (set ^^^ (-1 : Int32))) else b j
theorem dnK_s (b : Nat → Int32) (k : Nat) : upd (dnK set b k) k (bif hs set k then (0 : Int32) else dnK set b k k &&& (set ^^^ (-1 : Int32))) = dnK set b (k + 1) := by
  funext j
  by_cases h : j = k
  · subst h
    rw [upd_at]
    unfold dnK
    rw [if_neg (by omega), if_pos (by omega)]
  · rw [upd_ne h]
    unfold dnK
    by_cases h2 : j < k
    · rw [if_pos h2, if_pos (by omega)]
    · rw [if_neg h2, if_neg (by omega)]
theorem dnK_0 (b : Nat → Int32) : dnK set b 0 = b := by
  funext j
  exact if_neg (by omega)
theorem T_down {o : Nat} {M : mM} (ho : mTwB o = true) : f_X9_takeDown o set M = some ((), rs (mst M o 1 (M o 1 &&& (set ^^^ (-1 : Int32)))) (o + 6) (dnK set (M (o + 6)) 8)) := by
  unfold f_X9_takeDown f_X9_takeDown_l10
  rw [gd_t ho, wr_e]
  have e6 : mst M o 1 (M o 1 &&& (set ^^^ (-1 : Int32))) (o + 6) = M (o + 6) := mst_no (by omega)
  generalize mst M o 1 (M o 1 &&& (set ^^^ (-1 : Int32))) = N at e6 ⊢
  rw [← e6]
  refine wh_8e (fun k => (nI k, rs N (o + 6) (dnK set (N (o + 6)) k))) _ ?_ (fun k hk => ?_) ?_
  · rw [dnK_0, rs_self]
    rfl
  · show f_X9_takeDown_10 o set (nI k) _ = _
    try dsimp only
    unfold f_X9_takeDown_10 f_X9_takeDown_30
    rw [bif_f (i_8 hk), has_hs (by omega), ← dnK_s]
    simp only [gd_t (i_in hk i_28), i_ix (show k < 2 ^ 31 by omega), wr_e, rs_at, rs_st, i_1]
    cases hs set k <;> rfl
  · show f_X9_takeDown_10 o set (nI 8) _ = _
    try dsimp only
    unfold f_X9_takeDown_10
    rw [bif_t i_88]
theorem TR.dn {o : Nat} {M : mM} (h : TR n W M o) (h8 : n ≤ 8) (ho : mTwB o = true) : ∃ M1, f_X9_takeDown o set M = some ((), M1) ∧ TR n (wDown n W set) M1 o ∧ ∀ z, z ≠ o → z ≠ o + 6 → M1 z = M z := by
  rw [T_down ho]
  have eF : ∀ z, z ≠ o → z ≠ o + 6 → rs (mst M o 1 (M o 1 &&& (set ^^^ (-1 : Int32)))) (o + 6) (dnK set (M (o + 6)) 8) z = M z := fun z h1 h2 => by rw [rs_ne h2, mst_no h1]
  have e0 : ∀ k, k ≠ 1 → rs (mst M o 1 (M o 1 &&& (set ^^^ (-1 : Int32)))) (o + 6) (dnK set (M (o + 6)) 8) o k = M o k := fun k hk => by rw [rs_ne (by omega), mst_nk hk]
  obtain ⟨-, a1, a2, a3, a4, a5, a6, a7, -⟩ := id h
  refine ⟨_, rfl, h.up (e0 0 (by decide)) ?_ ?_ ?_ ?_ ?_ ?_ ?_ (fun p hp => ?_) (fun p hp hp8 => ?_) (eF _ (by omega) (by omega)) (eF _ (by omega) (by omega)) (wD_o (by decide)) (fun k h1 h2 => wD_o (by omega)), eF⟩
  · rw [rs_ne (by omega), mst_oo, wD_ups h8, a1]
  · rw [e0 2 (by decide), wD_sls, a2]
  · rw [e0 3 (by decide), wD_o (by decide), a3]
  · rw [e0 4 (by decide), wD_o (by decide), a4]
  · rw [e0 5 (by decide), wD_o (by decide), a5]
  · rw [e0 6 (by decide), wD_o (by decide), a6]
  · rw [e0 7 (by decide), wD_o (by decide), a7]
  · obtain ⟨b0, b1, b2, b3, b4, b5⟩ := h.pp hp
    rw [eF (o + 1) (by omega) (by omega), eF (o + 2) (by omega) (by omega), eF (o + 3) (by omega) (by omega), eF (o + 4) (by omega) (by omega), eF (o + 5) (by omega) (by omega), rs_at, wD_c (by omega) (by decide) (by decide) (by decide), wD_c (by omega) (by decide) (by decide) (by decide), wD_c (by omega) (by decide) (by decide) (by decide), wD_c (by omega) (by decide) (by decide) (by decide), wD_6 hp h8, wD_5 hp h8, wD_up hp h8]
    refine ⟨b0, b1, b2, b3, ?_, fun g => ?_⟩
    · unfold dnK
      rw [if_pos (by omega), b4]
    · rw [Bool.and_eq_true] at g
      rw [b5 g.1]
      cases e : hs set p
      · rfl
      · rw [e] at g; exact absurd g.2 (by decide)
  · obtain ⟨b1, b2, b3⟩ := h.p0 hp hp8
    rw [eF (o + 3) (by omega) (by omega), eF (o + 4) (by omega) (by omega), rs_at]
    refine ⟨b1, b2, ?_⟩
    unfold dnK
    rw [if_pos hp8, b3, i_and0]
    cases hs set p <;> rfl
/-- the reference's -/
theorem m_comesOut {M : mM} (hn : M 216 0 = nI n) (h8 : n ≤ 8) {k : Nat} (hk : k < n) : f_X12_comesOut (nI k) M = some ((), rs M 216 (wDown n (M 216) (f_X11_bit (nI k)))) := by
  unfold f_X12_comesOut
  rw [show (5 : Int32) = nI 5 from rfl, show (6 : Int32) = nI 6 from rfl, i_at, i_at, gd_t (i_in (by omega) (by decide)), wr_e, gd_t (i_in (by omega) (by decide)), wr_e, i_ix (by omega), i_ix (by omega), mst_rs M, rs_st]
  generalize hW1 : upd (upd (M 216) (8 + 7 * k + 5) (-1)) (8 + 7 * k + 6) 0 = W1
  have p5 : ∀ q, pv W1 q 5 = if q = k then (-1 : Int32) else pv (M 216) q 5 := fun q => by
    rw [← hW1, pv_un (by decide) (by decide) (Or.inr (by decide)), pv_upd (by decide) (by decide)]
    by_cases h : q = k
    · rw [if_pos ⟨h, rfl⟩, if_pos h]
    · rw [if_neg (fun z => h z.1), if_neg h]
  have p6 : ∀ q, pv W1 q 6 = if q = k then (0 : Int32) else pv (M 216) q 6 := fun q => by
    rw [← hW1, pv_upd (by decide) (by decide)]
    by_cases h : q = k
    · rw [if_pos ⟨h, rfl⟩, if_pos h]
    · rw [if_neg (fun z => h z.1), if_neg h, pv_un (by decide) (by decide) (Or.inr (by decide))]
  have pc : ∀ q c, c < 7 → c ≠ 5 → c ≠ 6 → pv W1 q c = pv (M 216) q c := fun q c hc h5 h6 => by
    rw [← hW1, pv_un (by decide) hc (Or.inr h6), pv_un (by decide) hc (Or.inr h5)]
  have po : ∀ j, (j < 8 ∨ 64 ≤ j) → W1 j = M 216 j := fun j hj => by
    rw [← hW1, upd_ne (by omega), upd_ne (by omega)]
  unfold f_X12_comesOut_l16
  refine wh_ne (fun j => (nI j, rs M 216 (pX W1 fun q c => if q < j ∧ c = 6 then pv W1 q 6 &&& (f_X11_bit (nI k) ^^^ (-1 : Int32)) else pv W1 q c))) n _ (by omega) ?_ (fun j hj => ?_) ?_
  · have : (pX W1 fun q c => if q < 0 ∧ c = 6 then pv W1 q 6 &&& (f_X11_bit (nI k) ^^^ (-1 : Int32)) else pv W1 q c) = W1 := W_ext (fun p c hp hc => by rw [pX_pv hp hc, if_neg (by omega)]) (fun j hj => pX_o hj)
    rw [this]
    rfl
  · show f_X12_comesOut_16 (nI k) (nI j) _ = _
    try dsimp only
    unfold f_X12_comesOut_16
    rw [m_ppl (n := n) (by rw [rs_at, pX_o (by decide), po 0 (by decide)]; exact hn), b1_s, bif_f (i_len hj h8), show (6 : Int32) = nI 6 from rfl, i_at, gd_t (i_in (by omega) (by decide)), gd_t (i_in (by omega) (by decide)), i_ix (by omega), wr_e, bitE, rs_st, rs_at, i_1]
    have : upd (pX W1 fun q c => if q < j ∧ c = 6 then pv W1 q 6 &&& (f_X11_bit (nI k) ^^^ (-1 : Int32)) else pv W1 q c) (8 + 7 * j + 6) ((pX W1 fun q c => if q < j ∧ c = 6 then pv W1 q 6 &&& (f_X11_bit (nI k) ^^^ (-1 : Int32)) else pv W1 q c) (8 + 7 * j + 6) &&& (f_X11_bit (nI k) ^^^ (-1 : Int32))) = pX W1 fun q c => if q < j + 1 ∧ c = 6 then pv W1 q 6 &&& (f_X11_bit (nI k) ^^^ (-1 : Int32)) else pv W1 q c := by
      refine W_ext (fun p c hp hc => ?_) (fun i hi => ?_)
      · rw [pv_upd (by decide) hc, pX_pv hp hc, pX_pv hp hc]
        by_cases h : p = j ∧ c = 6
        · obtain ⟨rfl, rfl⟩ := h
          rw [if_pos ⟨rfl, rfl⟩, if_pos ⟨by omega, rfl⟩]
          show pv (pX W1 _) p 6 &&& _ = _
          rw [pX_pv hp (by decide), if_neg (by omega)]
        · rw [if_neg h]
          by_cases h2 : p < j ∧ c = 6
          · rw [if_pos h2, if_pos (by omega)]
          · rw [if_neg h2, if_neg (by omega)]
      · rw [upd_ne (by omega), pX_o hi, pX_o hi]
    rw [this]
  · show f_X12_comesOut_16 (nI k) (nI n) _ = _
    try dsimp only
    unfold f_X12_comesOut_16
    rw [m_ppl (n := n) (by rw [rs_at, pX_o (by decide), po 0 (by decide)]; exact hn), b1_s, bif_t (i_lee n)]
    have : (pX W1 fun q c => if q < n ∧ c = 6 then pv W1 q 6 &&& (f_X11_bit (nI k) ^^^ (-1 : Int32)) else pv W1 q c) = wDown n (M 216) (f_X11_bit (nI k)) := by
      refine W_ext (fun p c hp hc => ?_) (fun i hi => by rw [pX_o hi, wD_o hi, po i hi])
      rw [pX_pv hp hc]
      have hb : hs (f_X11_bit (nI k)) p = decide (k = p) := hs_bit (by omega) (by omega)
      by_cases hpn : p < n
      · by_cases h6 : c = 6
        · subst h6
          rw [if_pos ⟨hpn, rfl⟩, wD_6 hpn h8, p6, hb]
          by_cases h : p = k
          · rw [if_pos h, decide_eq_true h.symm, i_and0]; rfl
          · rw [if_neg h, decide_eq_false (Ne.symm h)]; rfl
        · rw [if_neg (by omega)]
          by_cases h5 : c = 5
          · subst h5
            rw [wD_5 hpn h8, p5, hb]
            by_cases h : p = k
            · rw [if_pos h, decide_eq_true h.symm]; rfl
            · rw [if_neg h, decide_eq_false (Ne.symm h)]; rfl
          · rw [wD_c hp hc h5 h6, pc p c hc h5 h6]
      · rw [if_neg (by omega), wD_out (by omega) hp hc]
        by_cases h6 : c = 6
        · subst h6; rw [p6, if_neg (by omega)]
        · by_cases h5 : c = 5
          · subst h5; rw [p5, if_neg (by omega)]
          · exact pc p c hc h5 h6
    rw [this]
def subK (set : Int32) (j : Nat) : Int32 := setOf fun i => decide (i < j) && hs set i
theorem subK_s {j : Nat} (hj : j < 8) : subK set (j + 1) = bif hs set j then subK set j ||| f_X11_bit (nI j) else subK set j := by
  cases e : hs set j
  · rw [cond_false]
    refine set_congr fun i hi => ?_
    by_cases h : i = j
    · subst h; rw [e, Bool.and_false, Bool.and_false]
    · by_cases h2 : i < j
      · rw [decide_eq_true h2, decide_eq_true (by omega)]
      · rw [decide_eq_false h2, decide_eq_false (by omega)]
  · rw [cond_true]
    refine S8.ext (S8.set _) (S8.or (S8.set _) (S8.bit hj)) fun i hi => ?_
    rw [hs_or, hs_bit (by omega) (by omega)]
    unfold subK
    rw [hs_set8 hi, hs_set8 hi]
    by_cases h : i = j
    · subst h; rw [e, decide_eq_true rfl, decide_eq_true (by omega)]; simp
    · rw [decide_eq_false (Ne.symm h), Bool.or_false]
      by_cases h2 : i < j
      · rw [decide_eq_true h2, decide_eq_true (by omega)]
      · rw [decide_eq_false h2, decide_eq_false (by omega)]
theorem subK_0 : subK set 0 = 0 := S8.ext (S8.set _) S8.zero fun i hi => by
  unfold subK
  rw [hs_set8 hi, hs_0, decide_eq_false (by omega), Bool.false_and]
theorem m_comesOutOf {M : mM} (hn : M 216 0 = nI n) (h8 : n ≤ 8) : f_X12_comesOutOf set M = some ((), rs M 216 (wDown n (M 216) (subK set n))) := by
  unfold f_X12_comesOutOf f_X12_comesOutOf_l2
  have e0 : ∀ s, rs M 216 (wDown n (M 216) s) 216 0 = nI n := fun s => by rw [rs_at, wD_o (by decide), hn]
  refine wh_ne (fun j => (nI j, rs M 216 (wDown n (M 216) (subK set j)))) n _ (by omega) ?_ (fun j hj => ?_) ?_
  · rw [subK_0, wD_0, rs_self]
    rfl
  · show f_X12_comesOutOf_2 set (nI j) _ = _
    try dsimp only
    unfold f_X12_comesOutOf_2
    rw [m_ppl (n := n) (e0 _), b1_s, bif_f (i_len hj h8), mhas_hs (by omega), subK_s (by omega), i_1]
    cases e : hs set j
    · rfl
    · rw [cond_true, cond_true, m_comesOut (n := n) (e0 _) h8 hj, b2_s, rs_rs, rs_at, wD_wD h8]
  · show f_X12_comesOutOf_2 set (nI n) _ = _
    try dsimp only
    unfold f_X12_comesOutOf_2
    rw [m_ppl (n := n) (e0 _), b1_s, bif_t (i_lee n)]
theorem subK_n (h8 : S8 set) (h : ∀ p, n ≤ p → p < 8 → hs set p = false) : subK set n = set := S8.ext (S8.set _) h8 fun i hi => by
  unfold subK
  rw [hs_set8 hi]
  by_cases hi2 : i < n
  · rw [decide_eq_true hi2, Bool.true_and]
  · rw [h i (by omega) hi, Bool.and_false]
end
