/-! rings, heights, those who are alone, tired, alike -/
def exK (c : Nat → Bool) : Nat → Bool
  | 0 => false
  | k + 1 => exK c k || c k
theorem exK_s (c : Nat → Bool) (k : Nat) : exK c (k + 1) = (exK c k || c k) := rfl
theorem exK_iff {c : Nat → Bool} : ∀ {k : Nat}, exK c k = true ↔ ∃ p, p < k ∧ c p = true := by
  intro k
  induction k with
  | zero => exact ⟨fun h => (by cases h), fun ⟨p, h, _⟩ => absurd h (Nat.not_lt_zero p)⟩
  | succ k ih =>
    rw [exK_s, Bool.or_eq_true, ih]
    constructor
    · rintro (⟨p, h1, h2⟩ | h)
      · exact ⟨p, by omega, h2⟩
      · exact ⟨k, by omega, h⟩
    · rintro ⟨p, h1, h2⟩
      by_cases hp : p < k
      · exact Or.inl ⟨p, hp, h2⟩
      · rw [show p = k by omega] at h2
        exact Or.inr h2
theorem exK_0 {c : Nat → Bool} : decide (setOf c = 0) = !exK c 8 := by
  cases h : exK c 8
  · refine decide_eq_true (S8.ext (S8.set c) S8.zero fun j hj => ?_)
    rw [hs_set8 hj, hs_0]
    cases e : c j
    · rfl
    · have := exK_iff.mpr ⟨j, hj, e⟩
      rw [h] at this
      cases this
  · refine decide_eq_false fun z => ?_
    obtain ⟨p, hp, e⟩ := exK_iff.mp h
    have := hs_set8 (c := c) hp
    rw [z, hs_0, e] at this
    cases this
def topR (f : Nat → Bool) : Int32 := bif f 4 then 4 else bif f 3 then 3 else bif f 2 then 2 else bif f 1 then 1 else bif f 0 then 0 else -1
theorem topR_add (f0 f1 f2 f3 f4 : Bool) : ∀ r, r < 5 → (let f : Nat → Bool := fun j => match j with | 0 => f0 | 1 => f1 | 2 => f2 | 3 => f3 | _ => f4
    (bif decide (nI r ≤ topR f) then topR f else nI r) = topR fun j => f j || decide (j = r)) := by
  cases f0 <;> cases f1 <;> cases f2 <;> cases f3 <;> cases f4 <;> decide +kernel
theorem topR_congr {f g : Nat → Bool} (h : ∀ r, r < 5 → f r = g r) : topR f = topR g := by unfold topR; rw [h 4 (by decide), h 3 (by decide), h 2 (by decide), h 1 (by decide), h 0 (by decide)]
theorem topR_ad {f : Nat → Bool} {r : Nat} (hr : r < 5) : (bif decide (nI r ≤ topR f) then topR f else nI r) = topR fun j => f j || decide (j = r) := by
  have := topR_add (f 0) (f 1) (f 2) (f 3) (f 4) r hr
  dsimp only at this
  have e : topR (fun j => match j with | 0 => f 0 | 1 => f 1 | 2 => f 2 | 3 => f 3 | _ => f 4) = topR f := topR_congr fun j hj => by
    match j, hj with
    | 0, _ => rfl | 1, _ => rfl | 2, _ => rfl | 3, _ => rfl | 4, _ => rfl
  rw [e] at this
  rw [this]
  exact topR_congr fun j hj => by
    match j, hj with
    | 0, _ => rfl | 1, _ => rfl | 2, _ => rfl | 3, _ => rfl | 4, _ => rfl
/-- somebody of the first k is in ring r -/
def inR (n : Nat) (W : Nat → Int32) (k r : Nat) : Bool := exK (fun p => decide (p < n) && decide (pv W p 5 = nI r)) k
section
variable {n : Nat} {M : mM}
theorem WF.rg {W : Nat → Int32} (h : WF n W) {p : Nat} (hp : p < n) : pv W p 5 = -1 ∨ ∃ r, r ≤ 4 ∧ pv W p 5 = nI r := (h.2.2.1 p hp).2.1
theorem ring_up {W : Nat → Int32} {p r : Nat} (hr : r < 2 ^ 31) (e : pv W p 5 = nI r) : upB W p = true := by
  unfold upB
  rw [e, decide_eq_false fun z => ?_]
  · rfl
  · have := nI_pos hr
    rw [z] at this
    exact this (by decide)
theorem C_upper {o : Nat} (h : TR n (M 216) M o) (hw : WF n (M 216)) (ho : mTwB o = true) : f_X9_uppermost o M = some (topR (inR n (M 216) 8)) := by
  unfold f_X9_uppermost
  rw [gd_t ho]

  unfold f_X9_uppermost_l4
  refine wh_8e (fun k => (topR (inR n (M 216) k), nI k)) _ rfl ?_ ?_
  · intro k hk
    show f_X9_uppermost_4 o (topR (inR n (M 216) k)) (nI k) M = _
    unfold f_X9_uppermost_4
    rw [bif_f (i_8 hk)]
    simp only [has_hs (show k < 32 by omega), gd_t (i_in hk i_28), i_ix (show k < 2 ^ 31 by omega), i_1, dn, b1_s, b2_s, wr_e]
    have es : topR (inR n (M 216) (k + 1)) = topR fun r => inR n (M 216) k r || (decide (k < n) && decide (pv (M 216) k 5 = nI r)) := rfl
    rw [es, h.2.1, hs_ups hk]
    cases e1 : decide (k < n)
    · simp only [Bool.false_and, cond_false, Bool.or_false]
    · rcases hw.rg (of_decide_eq_true e1) with e2 | ⟨r, hr, e2⟩
      · have e3 : upB (M 216) k = false := by unfold upB; rw [e2]; rfl
        rw [e3]
        simp only [Bool.true_and, cond_false]
        rw [show topR (fun r => inR n (M 216) k r || decide (pv (M 216) k 5 = nI r)) = topR (inR n (M 216) k) from topR_congr fun r hr => by rw [upB_ri (by omega) e3, Bool.or_false]]
      · have e3 := ring_up (W := M 216) (by omega) e2
        rw [e3, (h.pp (of_decide_eq_true e1)).2.2.2.2.2 e3, e2]
        simp only [Bool.true_and, cond_true]
        rw [show (fun j => inR n (M 216) k j || decide (nI r = nI j)) = fun j => inR n (M 216) k j || decide (nI r = nI j) from rfl]
        have e4 : topR (fun j => inR n (M 216) k j || decide (nI r = nI j)) = topR fun j => inR n (M 216) k j || decide (j = r) := topR_congr fun j hj => by
          rw [i_eq (by omega) (by omega)]
          by_cases z : r = j
          · rw [decide_eq_true z, decide_eq_true z.symm]
          · rw [decide_eq_false z, decide_eq_false (Ne.symm z)]
        rw [e4, ← topR_ad (by omega)]
        cases decide (nI r ≤ topR (inR n (M 216) k)) <;> rfl
  · show f_X9_uppermost_4 o (topR (inR n (M 216) 8)) (nI 8) M = _
    unfold f_X9_uppermost_4
    rw [bif_t i_88]
theorem ring_ne {W : Nat → Int32} {r : Nat} : decide (rgS n W (nI r) = 0) = !inR n W 8 r := exK_0
/-- who is up is on one of the ring below, if nobody hangs -/
theorem WF.down {W : Nat → Int32} (hw : WF n W) (hs0 : stB n W (fun _ => 0) = true) {r : Nat} (h4 : r + 1 ≤ 4) (h : inR n W 8 (r + 1) = true) : inR n W 8 r = true := by
  obtain ⟨p, hp, e⟩ := exK_iff.mp h
  rw [Bool.and_eq_true] at e
  have hpn := of_decide_eq_true e.1
  have e5 := of_decide_eq_true e.2
  have hg : hgS n W = 0 := (or0.mp (of_decide_eq_true hs0)).2
  have h1 : hgB n W p = false := by
    have := hs_set8 (c := fun p => decide (p < n) && hgB n W p) hp
    rw [show setOf (fun p => decide (p < n) && hgB n W p) = 0 from hg, hs_0, e.1, Bool.true_and] at this
    exact this.symm
  unfold hgB at h1
  have e6 : decide (pv W p 5 ≤ 0) = false := by
    rw [e5, show (0 : Int32) = nI 0 from rfl, i_le (by omega) (by decide)]
    exact decide_eq_false (by omega)
  rw [e6] at h1
  have h2 : rBy n W p ≠ 0 := of_decide_eq_false h1
  have : ∃ q, q < 8 ∧ hs (rBy n W p) q = true := by
    refine Classical.byContradiction fun hc => h2 (S8.ext (S8.andl (hw.2.2.1 p hpn).2.2.1) S8.zero fun j hj => ?_)
    rw [hs_0]
    cases e7 : hs (rBy n W p) j
    · rfl
    · exact absurd ⟨j, hj, e7⟩ hc
  obtain ⟨q, hq, e7⟩ := this
  unfold rBy at e7
  rw [hs_and, Bool.and_eq_true] at e7
  obtain ⟨g1, g2, g3⟩ := (hw.2.2.1 p hpn).2.2.2.2 q hq e7.1
  refine exK_iff.mpr ⟨q, hq, ?_⟩
  rw [Bool.and_eq_true]
  refine ⟨decide_eq_true g1, decide_eq_true ?_⟩
  rw [e5, nI_succ] at g2
  have := congrArg (fun z => z + (-1 : Int32)) g2
  simp only [Int32.add_assoc, show (1 : Int32) + (-1 : Int32) = 0 by decide, Int32.add_zero] at this
  exact this
def cnt5 (f : Nat → Bool) : Nat → Int32
  | 0 => 0
  | k + 1 => cnt5 f k + bif f k then 1 else 0
theorem M_height (hn : M 216 0 = nI n) (h8 : n ≤ 8) : f_X12_height M = some (cnt5 (inR n (M 216) 8) 5, mst M 215 0 0) := by
  unfold f_X12_height f_X12_height_l7
  rw [wr_e]
  refine wh_ne (fun k => (cnt5 (inR n (M 216) 8) k, nI k)) 5 _ (by decide) rfl ?_ rfl
  intro k hk
  show f_X12_height_7 (cnt5 (inR n (M 216) 8) k) (nI k) (mst M 215 0 0) = _
  unfold f_X12_height_7
  have e5 : decide ((5 : Int32) ≤ nI k) = false := by
    rw [show (5 : Int32) = nI 5 from rfl, i_le (by decide) (by omega)]
    exact decide_eq_false (by omega)
  rw [bif_f e5, m_those (M := mst M 215 0 0) (n := n) hn h8, b1_s, in216 (by decide), ring_ne, i_1]
  show _ = some (Sum.inr (cnt5 (inR n (M 216) 8) k + (bif inR n (M 216) 8 k then 1 else 0), nI (k + 1)))
  cases inR n (M 216) 8 k <;> rfl
theorem top_cnt {f : Nat → Bool} (h : ∀ r, r + 1 ≤ 4 → f (r + 1) = true → f r = true) : topR f + 1 = cnt5 f 5 := by
  have h0 := h 0 (by decide)
  have h1 := h 1 (by decide)
  have h2 := h 2 (by decide)
  have h3 := h 3 (by decide)
  show topR f + 1 = 0 + _ + _ + _ + _ + _
  unfold topR
  revert h0 h1 h2 h3
  simp only [Nat.zero_add, Nat.reduceAdd]
  generalize f 0 = f0
  generalize f 1 = f1
  generalize f 2 = f2
  generalize f 3 = f3
  generalize f 4 = f4
  cases f0 <;> cases f1 <;> cases f2 <;> cases f3 <;> cases f4 <;> decide +kernel
theorem Rl.st (h : Rl n M) : stB n (M 216) (fun _ => 0) = true := h.2.1
theorem C_height (h : Rl n M) : f_X11_height M = some (cnt5 (inR n (M 216) 8) 5) := by
  unfold f_X11_height
  rw [C_upper h.tr h.wf T35, b1_s, top_cnt fun r hr => h.wf.down h.st hr]
/-- alone -/
def aloS (n : Nat) (W : Nat → Int32) : Int32 := setOf fun p => decide (p < n) && (!decide (pv W p 5 ≤ 0) && decide (bc (rBy n W p) = 1))
theorem WF.low {W : Nat → Int32} (hw : WF n W) {p : Nat} (hp : p < n) (e : decide (pv W p 5 ≤ 0) = true) : pv W p 6 = 0 := (hw.2.2.1 p hp).2.2.2.1 e
theorem C_alone (h : Rl n M) : f_X11_alone M = some (aloS n (M 216)) := by
  unfold f_X11_alone aloS
  rw [h.ho, b1_s]

  unfold f_X11_alone_l8
  refine wh_8e (fun k => (setK (fun p => decide (p < n) && (!decide (pv (M 216) p 5 ≤ 0) && decide (bc (rBy n (M 216) p) = 1))) k, nI k)) _ rfl ?_ ?_
  · intro k hk
    show f_X11_alone_8 _ _ (nI k) M = _
    unfold f_X11_alone_8
    rw [bif_f (i_8 hk)]
    simp only [has_hs (show k < 32 by omega), gd_t (i_in hk i_28), i_ix (show k < 2 ^ 31 by omega), i_1, dn, b1_s, b2_s, wr_e]
    rw [setK_s, h.up, hs_ups hk]
    generalize setK (fun p => decide (p < n) && (!decide (pv (M 216) p 5 ≤ 0) && decide (bc (rBy n (M 216) p) = 1))) k = z
    cases e1 : decide (k < n)
    · rfl
    · have g := h.tr.pp (of_decide_eq_true e1)
      rw [show M 41 k = pv (M 216) k 6 from g.2.2.2.2.1]
      show (bif true && upB (M 216) k then bif !decide (bc (rBy n (M 216) k) = 1) then _ else _ else _) = _
      cases e2 : upB (M 216) k
      · rw [upB_le e2]; rfl
      · cases e3 : decide (pv (M 216) k 5 ≤ 0)
        · cases decide (bc (rBy n (M 216) k) = 1) <;> rfl
        · have : rBy n (M 216) k = 0 := by unfold rBy; rw [h.wf.low (of_decide_eq_true e1) e3]; exact Int32.zero_and
          rw [this]; rfl
  · show f_X11_alone_8 _ _ (nI 8) M = _
    unfold f_X11_alone_8
    rw [bif_t i_88]
    rfl
theorem M_alone (hn : M 216 0 = nI n) (h8 : n ≤ 8) : f_X12_alone M = some (aloS n (M 216), mst M 215 0 0) := by
  unfold f_X12_alone aloS
  have hn' : mst M 215 0 0 216 0 = nI n := hn
  rw [wr_e, ← setK_8 h8]

  unfold f_X12_alone_l7
  refine wh_ne (fun k => (setK (fun p => decide (p < n) && (!decide (pv (M 216) p 5 ≤ 0) && decide (bc (rBy n (M 216) p) = 1))) k, nI k)) n _ (by omega) rfl ?_ ?_
  · intro k hk
    show f_X12_alone_7 _ (nI k) (mst M 215 0 0) = _
    unfold f_X12_alone_7
    rw [m_ppl (n := n) (hn'), b1_s, bif_f (i_len hk h8), show (5 : Int32) = nI 5 from rfl, show (6 : Int32) = nI 6 from rfl, m_of (by omega) (by decide), m_of (by omega) (by decide), m_hos (M := mst M 215 0 0) (n := n) hn h8, setK_s, decide_eq_true hk, in216 (by decide)]
    simp only [mhas_hs (show k < 32 by omega), gd_t (i_in (show k < 8 by omega) i_28), i_ix (show k < 2 ^ 31 by omega), i_1, dn, b1_s, b2_s, wr_e, bitE, b_or0]
    generalize setK (fun p => decide (p < n) && (!decide (pv (M 216) p 5 ≤ 0) && decide (bc (rBy n (M 216) p) = 1))) k = z
    show (bif decide (pv (M 216) k 5 ≤ 0) then _ else bif !decide (bc (rBy n (M 216) k) = 1) then _ else _) = _
    cases decide (pv (M 216) k 5 ≤ 0) <;> cases decide (bc (rBy n (M 216) k) = 1) <;> rfl
  · show f_X12_alone_7 _ (nI n) (mst M 215 0 0) = _
    unfold f_X12_alone_7
    rw [m_ppl (n := n) (hn'), b1_s, bif_t (i_lee n)]
/-- tired -/
def tirF (n : Nat) (W : Nat → Int32) (k : Nat) (s : Int32 × Int32) : Int32 × Int32 := bif decide (k < n) && !decide (pv W k 4 ≤ s.2) then (nI k, pv W k 4) else s
def tirS (n : Nat) (W : Nat → Int32) : Int32 := (itr (tirF n W) ((-1 : Int32), (0 : Int32)) 8).1
theorem C_tired (h : Rl n M) : f_X11_tired M = some (tirS n (M 216)) := by
  unfold f_X11_tired
  have pos : ∀ k, (0 : Int32) ≤ (itr (tirF n (M 216)) ((-1 : Int32), (0 : Int32)) k).2 := by
    intro k
    induction k with
    | zero => exact Int32.le_refl _
    | succ k ih =>
      rw [itr_s]
      generalize itr (tirF n (M 216)) ((-1 : Int32), (0 : Int32)) k = z at ih
      unfold tirF
      cases e : decide (k < n) && !decide (pv (M 216) k 4 ≤ z.2)
      · exact ih
      · rw [Bool.and_eq_true] at e
        have e2 : ¬ pv (M 216) k 4 ≤ z.2 := by
          have := e.2
          rw [← dn] at this
          exact of_decide_eq_true this
        exact Int32.le_trans ih (Int32.le_of_lt (Int32.not_le.mp e2))

  unfold f_X11_tired_l6
  refine wh_8e (fun k => ((itr (tirF n (M 216)) ((-1 : Int32), (0 : Int32)) k).1, (itr (tirF n (M 216)) ((-1 : Int32), (0 : Int32)) k).2, nI k)) _ rfl ?_ ?_
  · intro k hk
    show f_X11_tired_6 _ _ (nI k) M = _
    unfold f_X11_tired_6
    rw [bif_f (i_8 hk)]
    simp only [has_hs (show k < 32 by omega), gd_t (i_in hk i_28), i_ix (show k < 2 ^ 31 by omega), i_1, dn, b1_s, b2_s, wr_e]
    rw [itr_s]
    have hp := pos k
    generalize itr (tirF n (M 216)) ((-1 : Int32), (0 : Int32)) k = z at hp ⊢
    unfold tirF
    cases e1 : decide (k < n)
    · rw [show M 39 k = 0 from (h.tr.p0 (of_decide_eq_false e1 |> Nat.le_of_not_lt) hk).2.1, decide_eq_true hp]
      rfl
    · rw [show M 39 k = pv (M 216) k 4 from (h.tr.pp (of_decide_eq_true e1)).2.2.2.1]
      cases decide (pv (M 216) k 4 ≤ z.2) <;> rfl
  · show f_X11_tired_6 _ _ (nI 8) M = _
    unfold f_X11_tired_6
    rw [bif_t i_88]
    rfl
theorem mMax_b {x y : Int32} : mMax x y = bif decide (y ≤ x) then x else y := by
  unfold mMax
  by_cases h : y ≤ x
  · rw [if_neg (Int32.not_lt.mpr h), decide_eq_true h]; rfl
  · rw [if_pos (Int32.not_le.mp h), decide_eq_false h]; rfl
theorem mMin_b {x y : Int32} : mMin x y = bif decide (x ≤ y) then x else y := by
  unfold mMin
  by_cases h : x ≤ y
  · rw [if_neg (Int32.not_lt.mpr h), decide_eq_true h]; rfl
  · rw [if_pos (Int32.not_le.mp h), decide_eq_false h]; rfl
theorem M_tired (hn : M 216 0 = nI n) (h8 : n ≤ 8) : f_X12_tired M = some (tirS n (M 216), mst M 215 0 0) := by
  unfold f_X12_tired tirS
  have hn' : mst M 215 0 0 216 0 = nI n := hn
  rw [wr_e, itr_n (fun k h1 _ z => by unfold tirF; rw [decide_eq_false (by omega)]; rfl) 8 h8 (Nat.le_refl 8)]

  unfold f_X12_tired_l9
  refine wh_ne (fun k => ((itr (tirF n (M 216)) ((-1 : Int32), (0 : Int32)) k).1, (itr (tirF n (M 216)) ((-1 : Int32), (0 : Int32)) k).2, nI k)) n _ (by omega) rfl ?_ ?_
  · intro k hk
    show f_X12_tired_9 _ _ (nI k) (mst M 215 0 0) = _
    unfold f_X12_tired_9 f_X12_tired_22
    rw [m_ppl (n := n) (hn'), b1_s, bif_f (i_len hk h8), show (4 : Int32) = nI 4 from rfl, m_of (by omega) (by decide), itr_s, in216 (by decide)]
    simp only [mhas_hs (show k < 32 by omega), gd_t (i_in (show k < 8 by omega) i_28), i_ix (show k < 2 ^ 31 by omega), i_1, dn, b1_s, b2_s, wr_e, bitE, b_or0]
    generalize itr (tirF n (M 216)) ((-1 : Int32), (0 : Int32)) k = z
    unfold tirF
    rw [decide_eq_true hk, mMax_b]
    cases decide (pv (M 216) k 4 ≤ z.2) <;> rfl
  · show f_X12_tired_9 _ _ (nI n) (mst M 215 0 0) = _
    unfold f_X12_tired_9
    rw [m_ppl (n := n) (hn'), b1_s, bif_t (i_lee n)]
end
