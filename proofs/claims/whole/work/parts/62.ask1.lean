/-! what is asked: the small ones in the law's form; rings, pairs, the ground, who might come out, who might sleep -/
section
variable {n : Nat} {M : mM}
theorem OpR.q {α : Type} {fc : mM → Option α} {fm : mM → Option (α × mM)} (h : Rl n M) {v : α} {M2 : mM} (hc : fc M = some v) (hm : fm M = some (v, M2)) (hq : RQ M M2) : OpR M fc fm := ⟨v, M2, hc, hm, n, h.mq hq⟩
theorem rq_00 {N : mM} : RQ N (mst N 215 0 0) := RQ.st215 (by decide)
theorem Op_total (h : Rl n M) : OpR M f_X11_total f_X12_total := OpR.q h (C_total h) (M_total h.hn h.h8) rq_00
theorem Op_reserves (h : Rl n M) : OpR M f_X11_reserves f_X12_reserves := OpR.q h (C_reserves h) (M_reserves h.hn h.h8) rq_00
theorem Op_sleepers (h : Rl n M) : OpR M f_X11_sleepers f_X12_sleepers := OpR.q h (C_sleepers h) (M_sleepers h.hn h.h8) rq_00
theorem Op_fault (h : Rl n M) : OpR M f_X11_fault f_X12_fault := OpR.q h C_fault (M_fault h) rq_00
theorem Op_height (h : Rl n M) : OpR M f_X11_height f_X12_height := OpR.q h (C_height h) (M_height h.hn h.h8) rq_00
theorem Op_alone (h : Rl n M) : OpR M f_X11_alone f_X12_alone := OpR.q h (C_alone h) (M_alone h.hn h.h8) rq_00
theorem Op_tired (h : Rl n M) : OpR M f_X11_tired f_X12_tired := OpR.q h (C_tired h) (M_tired h.hn h.h8) rq_00
theorem Op_twins (h : Rl n M) : OpR M f_X11_twins f_X12_twins := OpR.q h (C_twins h) (M_twins h.hn h.h8) rq_00
/-- ring -/
theorem Op_ring (h : Rl n M) {r : Int32} : OpT M (f_X11_ring r) (f_X12_ring r) tTwo := by
  have hM : ∀ Mo, f_X12_ring r Mo = f_X12_ring_12 r (!rgB r) (mst Mo 215 0 0) := fun Mo => by
    unfold f_X12_ring
    rw [wr_e, in_04]
    cases rgB r
    · rw [cond_false, Bool.not_false]
    · rw [cond_true, Bool.not_true]
  cases hR : rgB r
  · refine OpT.q h (r := .inr 2) (M1 := M) ?_ CQ.rf (fun Mo e hr => ⟨0, mst (mst Mo 215 0 0) 215 0 1, ?_, rq_thr.1, rq_thr.2.1, rq_thr.2.2, by decide⟩)
    · unfold f_X11_ring
      rw [C_mustR, hR]
      rfl
    · rw [hM, hR]
      unfold f_X12_ring_12
      rw [m_tIf, b2_s, Bool.not_false, cond_true, cond_true]
  · obtain ⟨j, hj, rfl⟩ := rgB_of hR
    have hne : nI j ≠ -1 := fun z => nI_pos (show j < 2 ^ 31 by omega) (by rw [z]; decide)
    refine OpT.q h (r := .inl (rgS n (M 216) (nI j))) (M1 := M) ?_ CQ.rf (fun Mo e hr => ⟨rgS n (M 216) (nI j), mst Mo 215 0 0, ?_, rq_00, mst_no (by decide), rfl, mst_oo _ _ _ _⟩)
    · unfold f_X11_ring
      rw [C_mustR, hR, cond_true, tb_l, C_inRing h.tr T35 hne, b1_s]
    · have e' : mst Mo 215 0 0 216 = M 216 := by rw [mst_no (by decide), e]
      rw [hM, hR]
      unfold f_X12_ring_12
      rw [m_tIf, b2_s, Bool.not_true, cond_false, cond_false, m_those (n := n) (by rw [e']; exact h.hn) h.h8, b1_s, e']
/-- pairs -/
theorem Op_pairs (h : Rl n M) {x : Int32} : OpT M (f_X11_pairs x) (f_X12_pairs x) tOne := by
  have hC : f_X11_pairs x M = f_X11_pairs_8 x (inB 0 999 x) M := by
    unfold f_X11_pairs f_X11_pairs_7 inB
    cases decide (x < 0)
    · cases decide ((999 : Int32) < x)
      · rw [cond_false, cond_false]; rfl
      · rw [cond_false, cond_true]; rfl
    · rw [cond_true]; rfl
  have hM : ∀ Mo, f_X12_pairs x Mo = f_X12_pairs_12 x (!inB 0 999 x) (mst Mo 215 0 0) := fun Mo => by
    unfold f_X12_pairs
    rw [wr_e, in_B]
    cases inB 0 999 x
    · rw [cond_false, Bool.not_false]
    · rw [cond_true, Bool.not_true]
  cases hI : inB 0 999 x
  · refine OpT.q h (r := .inr 0) (M1 := M) ?_ CQ.rf (fun Mo e hr => ⟨0, mst (mst Mo 215 0 0) 215 0 1, ?_, rq_thr.1, rq_thr.2.1, rq_thr.2.2, by decide⟩)
    · rw [hC, hI]
      unfold f_X11_pairs_8 f_X11_mustBeOne
      rw [cond_false, tb_r]
    · rw [hM, hI]
      unfold f_X12_pairs_12
      rw [m_tIf, b2_s, Bool.not_false, cond_true, cond_true]
  · refine OpT.q h (r := .inl (prS (paB n (M 216) x))) (M1 := M) ?_ CQ.rf (fun Mo e hr => ⟨prS (paB n (M 216) x), mst Mo 215 0 0, ?_, rq_00, mst_no (by decide), rfl, mst_oo _ _ _ _⟩)
    · rw [hC, hI]
      unfold f_X11_pairs_8 f_X11_mustBeOne
      rw [cond_true, tb_l, C_pairs_l h]
    · have e' : mst Mo 215 0 0 216 = M 216 := by rw [mst_no (by decide), e]
      rw [hM, hI]
      unfold f_X12_pairs_12
      rw [m_tIf, b2_s, Bool.not_true, cond_false, cond_false, M_pairs_l (n := n) (by rw [e']; exact h.hn) h.h8, e']
/-- the ground -/
def grF (n : Nat) (W : Nat → Int32) (k : Nat) (s : Int32) : Int32 := s + bif decide (k < n) && decide (pv W k 5 = 0) then pv W k 0 + rCar n W (fun _ => 0) k else 0
theorem Op_ground (h : Rl n M) : OpR M f_X11_ground f_X12_ground := by
  have h8 := h.h8
  have hn := h.hn
  refine OpR.q h (v := itr (grF n (M 216)) 0 8) (M2 := rs (mst M 215 0 0) 221 (rCar n (M 216) (M 221))) ?_ ?_ (rq_00.tr (RQ.rs (by decide)))
  · unfold f_X11_ground
    rw [C_inRing h.tr T35 (by decide), b1_s]
    unfold f_X11_ground_l9
    refine wh_8e (fun k => (itr (grF n (M 216)) 0 k, nI k)) _ rfl (fun k hk => ?_) ?_
    · show f_X11_ground_9 _ (itr (grF n (M 216)) 0 k) (nI k) M = _
      unfold f_X11_ground_9
      rw [bif_f (i_8 hk), has_hs (by omega), gd_t (i_in hk i_28), gd_t (i_in hk i_28), i_ix (by omega), i_1, h.ts.2.2 k hk, itr_s]
      generalize itr (grF n (M 216)) 0 k = z
      unfold grF rgS
      rw [hs_set8 hk]
      cases e : decide (k < n)
      · rw [Bool.false_and]; rfl
      · rw [show M 36 k = pv (M 216) k 0 from (h.tr.pp (of_decide_eq_true e)).1]
        cases decide (pv (M 216) k 5 = 0) <;> rfl
    · show f_X11_ground_9 _ _ (nI 8) M = _
      unfold f_X11_ground_9
      rw [bif_t i_88]
  · unfold f_X12_ground
    have e' : mst M 215 0 0 216 = M 216 := mst_no (by decide)
    rw [wr_e, m_lays (n := n) (by rw [e']; exact hn) h8, b2_s, e', mst_no (show 221 ≠ 215 by decide)]
    rw [show itr (grF n (M 216)) 0 8 = itr (grF n (M 216)) 0 n from itr_n (fun k h1 _ z => by unfold grF; rw [decide_eq_false (by omega)]; exact Int32.add_zero z) 8 h8 (Nat.le_refl 8)]
    generalize hN : rs (mst M 215 0 0) 221 (rCar n (M 216) (M 221)) = N
    have N216 : N 216 = M 216 := by rw [← hN, rs_ne (by decide), e']
    have N221 : N 221 = rCar n (M 216) (M 221) := by rw [← hN, rs_at]
    have hn' : N 216 0 = nI n := by rw [N216]; exact hn
    unfold f_X12_ground_l9
    refine wh_ne (fun k => (itr (grF n (M 216)) 0 k, nI k)) n _ (by omega) rfl (fun k hk => ?_) ?_
    · show f_X12_ground_9 (itr (grF n (M 216)) 0 k) (nI k) N = _
      unfold f_X12_ground_9
      rw [m_ppl (n := n) hn', b1_s, bif_f (i_len hk h8), show (5 : Int32) = nI 5 from rfl, m_of (by omega) (by decide), b1_s, show (0 : Int32) = nI 0 from rfl, m_of (by omega) (by decide), b1_s, gd_t (i_in (show k < 8 by omega) i_28), i_ix (by omega), i_1, dn, N216, N221, itr_s]
      rw [show itr (grF n (M 216)) (nI 0) k = itr (grF n (M 216)) 0 k from rfl]
      generalize itr (grF n (M 216)) 0 k = z
      unfold grF
      rw [decide_eq_true hk, rCar_in (b' := fun _ => 0) (by omega)]
      show (bif !decide (pv (M 216) k 5 = nI 0) then _ else _) = _
      rw [show nI 0 = (0 : Int32) from rfl]
      cases decide (pv (M 216) k 5 = 0) <;> rfl
    · show f_X12_ground_9 _ (nI n) N = _
      unfold f_X12_ground_9
      rw [m_ppl (n := n) hn', b1_s, bif_t (i_lee n)]
/-- a world that is part of another, thought of by the class -/
theorem stG_w {W W' : Nat → Int32} (e0 : ∀ p, p < n → pv W' p 0 = pv W p 0) (e2 : ∀ p, p < n → pv W' p 2 = pv W p 2) (eu : ∀ p, p < n → upB W' p = true → pv W' p 5 = pv W p 5 ∧ pv W' p 6 &&& hoS n W' = pv W p 6 &&& hoS n W') {b : Nat → Int32} : stG n W (upS n W') (hoS n W') b = stB n W' b := by
  have e5 : ∀ p, p < n → upB W' p = false → decide (pv W' p 5 ≤ 0) = true := fun p _ hu => upB_le hu
  have c1 : hgG n W (upS n W') (hoS n W') = hgG n W' (upS n W') (hoS n W') := by
    unfold hgG
    refine set_congr fun p hp => ?_
    by_cases hpn : p < n
    · rw [hs_ups hp]
      cases hu : upB W' p
      · simp only [Bool.and_false, Bool.false_and]
      · rw [(eu p hpn hu).1, (eu p hpn hu).2]
    · rw [decide_eq_false hpn, Bool.false_and, Bool.false_and]
  have c2 : caG n W (upS n W') (hoS n W') b = caG n W' (upS n W') (hoS n W') b := by
    unfold caG
    refine car_congr (fun r p _ _ hp => ?_) (fun r p _ _ hp ha => ?_)
    · by_cases hpn : p < n
      · rw [hs_ups hp]
        cases hu : upB W' p
        · simp only [Bool.and_false, Bool.false_and]
        · rw [(eu p hpn hu).1]
      · rw [decide_eq_false hpn, Bool.false_and, Bool.false_and]
    · rw [Bool.and_eq_true, Bool.and_eq_true] at ha
      have hpn := of_decide_eq_true ha.1
      have hu := ha.2.1
      rw [hs_ups hp, Bool.and_eq_true] at hu
      exact ⟨(e0 p hpn).symm, (eu p hpn hu.2).2.symm⟩
  have c3 : ywG n W (upS n W') (hoS n W') b = ywG n W' (upS n W') (hoS n W') b := by
    unfold ywG
    rw [c2]
    refine set_congr fun p hp => ?_
    by_cases hpn : p < n
    · rw [e2 p hpn]
    · rw [decide_eq_false hpn, Bool.false_and, Bool.false_and]
  rw [stB_G]
  unfold stG
  rw [c1, c3]
/-- those of a set come down, in thought -/
theorem stG_dn {W : Nat → Int32} {set ups : Int32} (h8 : n ≤ 8) (hu : ups = upS n W &&& (set ^^^ (-1 : Int32))) : stG n W ups (ups &&& (slS n W ^^^ (-1 : Int32))) (fun _ => 0) = stB n (wDown n W set) (fun _ => 0) := by
  have e1 : ups = upS n (wDown n W set) := by rw [wD_ups h8, hu]
  have e2 : ups &&& (slS n W ^^^ (-1 : Int32)) = hoS n (wDown n W set) := by rw [e1, ← wD_sls (set := set), ho_of]
  rw [e2, e1]
  refine stG_w (fun p hp => wD_c (by omega) (by decide) (by decide) (by decide)) (fun p hp => wD_c (by omega) (by decide) (by decide) (by decide)) fun p hp hp2 => ?_
  rw [wD_up hp h8, Bool.and_eq_true] at hp2
  have hz : hs set p = false := by
    cases z : hs set p
    · rfl
    · rw [z] at hp2; exact absurd hp2.2 (by decide)
  rw [wD_5 hp h8, wD_6 hp h8, hz, cond_false, cond_false, wD_hos h8]
  refine ⟨rfl, hs_ext fun j hj => ?_⟩
  simp only [hs_and, hs_nn hj]
  cases hs (pv W p 6) j <;> cases hs (hoS n W) j <;> cases hs set j <;> rfl
/-- the reference's question whether it would stand without some -/
theorem m_could {Mo : mM} {W : Nat → Int32} {set : Int32} (hn : W 0 = nI n) (h8 : n ≤ 8) (e : Mo 216 = W) : ∃ M2, f_X12_couldComeOut set Mo = some (stB n (wDown n W (subK set n)) (fun _ => 0), M2) ∧ ∀ z, z ≠ 219 → z ≠ 221 → M2 z = Mo z := by
  unfold f_X12_couldComeOut
  rw [m_kp2 e, b2_s]
  generalize hN : rs Mo 219 (va_cpy W (Mo 219) 0 0 424) = N
  have N216 : N 216 = W := by rw [← hN, rs_ne (by decide), e]
  rw [m_comesOutOf (n := n) (by rw [N216]; exact hn) h8, b2_s, N216]
  generalize hW : wDown n W (subK set n) = W'
  have hW0 : W' 0 = nI n := by rw [← hW, wD_o (by decide)]; exact hn
  rw [m_stands (n := n) (by rw [rs_at]; exact hW0) h8, b2_s, rs_at, stB_in _ (fun _ => 0)]
  generalize rCar n W' (rs N 216 W' 221) = B
  have e219 : rs (rs N 216 W') 221 B 219 = rs Mo 219 (va_cpy W (Mo 219) 0 0 424) 219 := by rw [rs_ne (by decide), rs_ne (by decide), hN]
  rw [m_back (W := W) (m_219 e219) (fun k hk => by rw [rs_ne (by decide), rs_at, ← hW, wD_o (by omega)]), b2_s]
  refine ⟨_, rfl, fun z z1 z2 => ?_⟩
  by_cases h6 : z = 216
  · rw [h6, rs_at, e]
  · rw [rs_ne h6, rs_ne z2, rs_ne h6, ← hN, rs_ne z1]
theorem subK_bit {k : Nat} (hk : k < n) (h8 : n ≤ 8) : subK (f_X11_bit (nI k)) n = f_X11_bit (nI k) := subK_n (S8.bit (by omega)) fun p h1 h2 => by rw [hs_bit (by omega) (by omega)]; exact decide_eq_false (by omega)
/-- who might come out -/
def outB (n : Nat) (W : Nat → Int32) (p : Nat) : Bool := decide (p < n) && (upB W p && stB n (wDown n W (f_X11_bit (nI p))) (fun _ => 0))
theorem sC43 {M M' : mM} (h : ∀ z, z ≠ 43 → M' z = M z) : CQ M M' := CQ.of fun z hz => h z fun e => by rw [e] at hz; cases hz
theorem TR.o8 {W : Nat → Int32} {M M' : mM} {o : Nat} (h : TR n W M o) (h8 : n ≤ 8) (e : ∀ z, z ≠ o + 8 → M' z = M z) : TR n W M' o := h.mv h8 (eqT.rf fun j hj hj8 => e _ (by omega))
theorem Op_outs (h : Rl n M) : OpA M f_X11_outs f_X12_outs := by
  have h8 := h.h8
  have hn := h.hn
  have hC : ∃ M1, f_X11_outs M = some (setOf (outB n (M 216)), M1) ∧ ∀ z, z ≠ 43 → M1 z = M z := by
    unfold f_X11_outs f_X11_outs_l4
    refine wh_V (fun k (s : Int32 × Int32 × mM) => s.1 = setK (outB n (M 216)) k ∧ s.2.1 = nI k ∧ ∀ z, z ≠ 43 → s.2.2 z = M z) _ _ 8 _ _ ⟨rfl, rfl, fun z _ => rfl⟩ (fun k hk s hs => ?_) (fun s hs => ?_) (by decide)
    · obtain ⟨a, b, N⟩ := s
      obtain ⟨rfl, rfl, hN⟩ := id hs
      have tr : TR n (M 216) N 35 := h.tr.o8 h8 hN
      show ∃ s', f_X11_outs_4 (setK (outB n (M 216)) k) (nI k) N = _ ∧ _
      unfold f_X11_outs_4
      rw [bif_f (i_8 hk), tr.2.1, tr.2.2.1, has_hs (by omega), hs_ups hk, i_1, setK_s]
      unfold outB
      cases e1 : decide (k < n)
      · rw [Bool.false_and, Bool.false_and, cond_false, cond_false]
        exact ⟨_, rfl, rfl, rfl, hN⟩
      · have hkn := of_decide_eq_true e1
        rw [Bool.true_and, Bool.true_and]
        cases e2 : upB (M 216) k
        · rw [Bool.false_and, cond_false, cond_false]
          exact ⟨_, rfl, rfl, rfl, hN⟩
        · obtain ⟨M', g1, g2⟩ := tr.stands T35 (ups := upS n (M 216) &&& (f_X11_bit (nI k) ^^^ (-1 : Int32))) (sl := slS n (M 216)) sub_and
          rw [Bool.true_and, cond_true, g1, b2_s, stG_dn h8 rfl]
          cases stB n (wDown n (M 216) (f_X11_bit (nI k))) (fun _ => 0)
          · rw [cond_false, cond_false]
            exact ⟨_, rfl, rfl, rfl, fun z hz => (g2 z hz).trans (hN z hz)⟩
          · rw [cond_true, cond_true]
            exact ⟨_, rfl, rfl, rfl, fun z hz => (g2 z hz).trans (hN z hz)⟩
    · obtain ⟨a, b, N⟩ := s
      obtain ⟨rfl, rfl, hN⟩ := id hs
      show ∃ M', f_X11_outs_4 _ (nI 8) N = _ ∧ _
      unfold f_X11_outs_4
      rw [bif_t i_88]
      exact ⟨_, rfl, hN⟩
  obtain ⟨M1, c1, c2⟩ := hC
  refine OpA.q h c1 (sC43 c2) fun h1 e1 => ?_
  have hM : ∃ M2, f_X12_outs M1 = some (setOf (outB n (M 216)), M2) ∧ (∀ z, z ≠ 219 → z ≠ 221 → M2 z = mst M1 215 0 0 z) := by
    unfold f_X12_outs f_X12_outs_l7
    rw [wr_e]
    have e8 : setOf (outB n (M 216)) = setK (outB n (M 216)) n := (setK_8 h8).symm
    rw [e8]
    refine wh_V (fun k (s : Int32 × Int32 × mM) => s.1 = setK (outB n (M 216)) k ∧ s.2.1 = nI k ∧ ∀ z, z ≠ 219 → z ≠ 221 → s.2.2 z = mst M1 215 0 0 z) _ _ n _ _ ⟨rfl, rfl, fun z _ _ => rfl⟩ (fun k hk s hs => ?_) (fun s hs => ?_) (by omega)
    · obtain ⟨a, b, N⟩ := s
      obtain ⟨rfl, rfl, hN⟩ := id hs
      have N216 : N 216 = M 216 := (hN 216 (by decide) (by decide)).trans (by rw [mst_no (by decide), e1])
      have hn' : N 216 0 = nI n := by rw [N216]; exact hn
      show ∃ s', f_X12_outs_7 (setK (outB n (M 216)) k) (nI k) N = _ ∧ _
      unfold f_X12_outs_7
      rw [m_ppl (n := n) hn', b1_s, bif_f (i_len hk h8), m_isUp (by omega), b1_s, i_1, setK_s, bitE, N216, b_or0]
      unfold outB
      rw [decide_eq_true hk, Bool.true_and]
      cases e2 : upB (M 216) k
      · rw [Bool.false_and, cond_false, cond_false]
        exact ⟨_, rfl, rfl, rfl, hN⟩
      · obtain ⟨M', g1, g2⟩ := m_could (set := f_X11_bit (nI k)) hn h8 N216
        rw [Bool.true_and, cond_true, g1, b2_s, subK_bit hk h8]
        cases stB n (wDown n (M 216) (f_X11_bit (nI k))) (fun _ => 0)
        · rw [cond_false, cond_false]
          exact ⟨_, rfl, rfl, rfl, fun z z1 z2 => (g2 z z1 z2).trans (hN z z1 z2)⟩
        · rw [cond_true, cond_true]
          exact ⟨_, rfl, rfl, rfl, fun z z1 z2 => (g2 z z1 z2).trans (hN z z1 z2)⟩
    · obtain ⟨a, b, N⟩ := s
      obtain ⟨rfl, rfl, hN⟩ := id hs
      have N216 : N 216 = M 216 := (hN 216 (by decide) (by decide)).trans (by rw [mst_no (by decide), e1])
      show ∃ M', f_X12_outs_7 _ (nI n) N = _ ∧ _
      unfold f_X12_outs_7
      rw [m_ppl (n := n) (by rw [N216]; exact hn), b1_s, bif_t (i_lee n)]
      exact ⟨_, rfl, hN⟩
  obtain ⟨M2, d1, d2⟩ := hM
  exact ⟨M2, d1, rq_00.tr (RQ.of (fun z _ z2 z3 _ _ => d2 z z2 z3) fun k _ => by rw [d2 215 (by decide) (by decide)])⟩
/-- a loop over a number, a count and the contents -/
theorem wh_3 {b : Int32 × Int32 × mM → Option ((Int32 × mM) ⊕ (Int32 × Int32 × mM))} (A : Nat → Int32) (P : mM → Prop) (v : Int32) (N : Nat) (a0 : Int32) (M0 : mM) (h0 : a0 = A 0) (hP : P M0) (hs : ∀ k, k < N → ∀ M, P M → ∃ M', b (A k, nI k, M) = some (.inr (A (k + 1), nI (k + 1), M')) ∧ P M') (he : ∀ M, P M → ∃ M', b (A N, nI N, M) = some (.inl (v, M')) ∧ P M') (hn : N < 100000) : ∃ M2, wh 100000 b (a0, (0 : Int32), M0) = some (v, M2) ∧ P M2 := by
  subst h0
  refine wh_V (fun k (s : Int32 × Int32 × mM) => s.1 = A k ∧ s.2.1 = nI k ∧ P s.2.2) v P N 100000 _ ⟨rfl, rfl, hP⟩ (fun k hk s hs' => ?_) (fun s hs' => ?_) hn
  · obtain ⟨a, i, M⟩ := s
    obtain ⟨h1, h2, h3⟩ := hs'
    dsimp only at h1 h2 h3
    subst h1 h2
    obtain ⟨M', e1, e2⟩ := hs k hk M h3
    exact ⟨_, e1, rfl, rfl, e2⟩
  · obtain ⟨a, i, M⟩ := s
    obtain ⟨h1, h2, h3⟩ := hs'
    dsimp only at h1 h2 h3
    subst h1 h2
    exact he M h3
/-- who might sleep -/
def slpB (n : Nat) (W : Nat → Int32) (p : Nat) : Bool := decide (p < n) && (hoB W p && stB n (upd W (8 + 7 * p + 3) 1) (fun _ => 0))
theorem stG_sl {W : Nat → Int32} {k : Nat} (h8 : n ≤ 8) (hk : k < n) : stG n W (upS n W) (upS n W &&& ((slS n W ||| f_X11_bit (nI k)) ^^^ (-1 : Int32))) (fun _ => 0) = stB n (upd W (8 + 7 * k + 3) 1) (fun _ => 0) := by
  have eu : ∀ p, upB (upd W (8 + 7 * k + 3) 1) p = upB W p := fun p => by unfold upB; rw [pv_un (by decide) (by decide) (Or.inr (by decide))]
  have e1 : upS n (upd W (8 + 7 * k + 3) 1) = upS n W := set_congr fun p hp => by rw [eu]
  rw [sl_1 h8 hk]
  have e2 : upS n W &&& (slS n (upd W (8 + 7 * k + 3) 1) ^^^ (-1 : Int32)) = hoS n (upd W (8 + 7 * k + 3) 1) := by rw [← e1, ho_of]
  rw [e2, ← e1]
  refine stG_w (fun p hp => pv_un (by decide) (by decide) (Or.inr (by decide))) (fun p hp => pv_un (by decide) (by decide) (Or.inr (by decide))) fun p hp _ => ⟨pv_un (by decide) (by decide) (Or.inr (by decide)), by rw [pv_un (by decide) (by decide) (Or.inr (by decide))]⟩
theorem Op_sleeps (h : Rl n M) : OpA M f_X11_sleeps f_X12_sleeps := by
  have h8 := h.h8
  have hn := h.hn
  have hC : ∃ M1, f_X11_sleeps M = some (setOf (slpB n (M 216)), M1) ∧ ∀ z, z ≠ 43 → M1 z = M z := by
    unfold f_X11_sleeps f_X11_sleeps_l8
    rw [h.ho, b1_s]
    refine wh_3 (fun k => setK (slpB n (M 216)) k) (fun N => ∀ z, z ≠ 43 → N z = M z) _ 8 _ _ rfl (fun z _ => rfl) (fun k hk N hN => ?_) (fun N hN => ?_) (by decide)
    · have tr : TR n (M 216) N 35 := h.tr.o8 h8 hN
      show ∃ M', f_X11_sleeps_8 (hoS n (M 216)) (setK (slpB n (M 216)) k) (nI k) N = _ ∧ _
      unfold f_X11_sleeps_8
      rw [bif_f (i_8 hk), tr.2.1, tr.2.2.1, has_hs (by omega), hs_hos hk, i_1, setK_s]
      unfold slpB
      cases e1 : decide (k < n)
      · rw [Bool.false_and, Bool.false_and, cond_false, cond_false]
        exact ⟨_, rfl, hN⟩
      · have hkn := of_decide_eq_true e1
        rw [Bool.true_and, Bool.true_and]
        cases e2 : hoB (M 216) k
        · rw [Bool.false_and, cond_false, cond_false]
          exact ⟨_, rfl, hN⟩
        · obtain ⟨M', g1, g2⟩ := tr.stands T35 (ups := upS n (M 216)) (sl := slS n (M 216) ||| f_X11_bit (nI k)) sub_rf
          rw [Bool.true_and, cond_true, g1, b2_s, stG_sl h8 hkn]
          cases stB n (upd (M 216) (8 + 7 * k + 3) 1) (fun _ => 0)
          · rw [cond_false, cond_false]
            exact ⟨_, rfl, fun z hz => (g2 z hz).trans (hN z hz)⟩
          · rw [cond_true, cond_true]
            exact ⟨_, rfl, fun z hz => (g2 z hz).trans (hN z hz)⟩
    · show ∃ M', f_X11_sleeps_8 _ _ (nI 8) N = _ ∧ _
      unfold f_X11_sleeps_8
      rw [bif_t i_88]
      exact ⟨_, rfl, hN⟩
  obtain ⟨M1, c1, c2⟩ := hC
  refine OpA.q h c1 (sC43 c2) fun h1 e1 => ?_
  have hM : ∃ M2, f_X12_sleeps M1 = some (setOf (slpB n (M 216)), M2) ∧ (∀ z, z ≠ 221 → M2 z = mst M1 215 0 0 z) := by
    unfold f_X12_sleeps f_X12_sleeps_l7
    rw [wr_e]
    have e8 : setOf (slpB n (M 216)) = setK (slpB n (M 216)) n := (setK_8 h8).symm
    rw [e8]
    refine wh_3 (fun k => setK (slpB n (M 216)) k) (fun N => ∀ z, z ≠ 221 → N z = mst M1 215 0 0 z) _ n _ _ rfl (fun z _ => rfl) (fun k hk N hN => ?_) (fun N hN => ?_) (by omega)
    · have N216 : N 216 = M 216 := (hN 216 (by decide)).trans (by rw [mst_no (by decide), e1])
      have hn' : N 216 0 = nI n := by rw [N216]; exact hn
      show ∃ M', f_X12_sleeps_7 (setK (slpB n (M 216)) k) (nI k) N = _ ∧ _
      unfold f_X12_sleeps_7
      rw [m_ppl (n := n) hn', b1_s, bif_f (i_len hk h8), m_holds (by omega), b1_s, setK_s, N216]
      unfold slpB
      rw [decide_eq_true hk, Bool.true_and]
      cases e2 : hoB (M 216) k
      · rw [Bool.false_and, cond_false, cond_false, i_1]
        exact ⟨_, rfl, hN⟩
      · have h3 : pv (M 216) k 3 = 0 := by
          rcases h.wf.sl01 hk with e | e
          · exact e
          · unfold hoB slB at e2
            rw [e] at e2
            rw [Bool.and_eq_true] at e2
            exact absurd e2.2 (by decide)
        rw [Bool.true_and, cond_true, show (3 : Int32) = nI 3 from rfl, i_at, gd_t (i_in (by omega) (by decide)), wr_e, i_ix (by omega), mst_rs N, N216]
        rw [m_stands (n := n) (by rw [rs_at, upd_ne (by omega)]; exact hn) h8, b2_s, rs_at, stB_in _ (fun _ => 0)]
        generalize rCar n (upd (M 216) (8 + 7 * k + 3) 1) (rs N 216 (upd (M 216) (8 + 7 * k + 3) 1) 221) = B
        have eF : ∀ z, z ≠ 221 → mst (rs (rs N 216 (upd (M 216) (8 + 7 * k + 3) 1)) 221 B) 216 (8 + 7 * k + 3) 0 z = mst M1 215 0 0 z := fun z hz => by
          by_cases h6 : z = 216
          · have e6 : mst M1 215 0 0 216 = M 216 := by rw [mst_no (by decide), e1]
            rw [h6, e6]
            funext j
            by_cases hj : j = 8 + 7 * k + 3
            · rw [hj, mst_oo]; exact h3.symm
            · rw [mst_nk hj, rs_ne (by decide), rs_at, upd_ne hj]
          · rw [mst_no h6, rs_ne hz, rs_ne h6, hN z hz]
        cases stB n (upd (M 216) (8 + 7 * k + 3) 1) (fun _ => 0)
        · rw [cond_false, cond_false]
          unfold f_X12_sleeps_32
          rw [show (3 : Int32) = nI 3 from rfl, i_at, gd_t (i_in (by omega) (by decide)), wr_e, i_ix (by omega), i_1, b_or0]
          exact ⟨_, rfl, eF⟩
        · rw [cond_true, cond_true]
          unfold f_X12_sleeps_32
          rw [show (3 : Int32) = nI 3 from rfl, i_at, gd_t (i_in (by omega) (by decide)), wr_e, i_ix (by omega), i_1, bitE]
          exact ⟨_, rfl, eF⟩
    · have N216 : N 216 = M 216 := (hN 216 (by decide)).trans (by rw [mst_no (by decide), e1])
      show ∃ M', f_X12_sleeps_7 _ (nI n) N = _ ∧ _
      unfold f_X12_sleeps_7
      rw [m_ppl (n := n) (by rw [N216]; exact hn), b1_s, bif_t (i_lee n)]
      exact ⟨_, rfl, hN⟩
  obtain ⟨M2, d1, d2⟩ := hM
  exact ⟨M2, d1, rq_00.tr (RQ.of (fun z _ _ z3 _ _ => d2 z z3) fun k _ => by rw [d2 215 (by decide)])⟩
end
