/-! more -/
section
variable {n : Nat} {M : mM}
theorem TR.wt {W : Nat → Int32} {o k : Nat} {N : mM} {v : Int32} (h : TR n W N o) (h8 : n ≤ 8) (hk : k < n) : TR n (upd W (8 + 7 * k + 0) v) (mst N (o + 1) k v) o := by
  obtain ⟨-, a1, a2, a3, a4, a5, a6, a7, -⟩ := id h
  have ep : ∀ p c, c < 7 → c ≠ 0 → pv (upd W (8 + 7 * k + 0) v) p c = pv W p c := fun p c hc h3 => pv_un (by decide) hc (Or.inr h3)
  have eo : ∀ j, (j < 8 ∨ 64 ≤ j) → upd W (8 + 7 * k + 0) v j = W j := fun j hj => upd_ne (by omega)
  have eu : ∀ p, upB (upd W (8 + 7 * k + 0) v) p = upB W p := fun p => by unfold upB; rw [ep p 5 (by decide) (by decide)]
  have es : ∀ p, slB (upd W (8 + 7 * k + 0) v) p = slB W p := fun p => by unfold slB; rw [ep p 3 (by decide) (by decide)]
  have eF : ∀ z, z ≠ o + 1 → mst N (o + 1) k v z = N z := fun z hz => mst_no hz
  refine h.up (by rw [eF _ (by omega)]) ?_ ?_ ?_ ?_ ?_ ?_ ?_ (fun p hp => ?_) (fun p hp hp8 => ?_) (eF _ (by omega)) (eF _ (by omega)) (eo 6 (by decide)) (fun j h1 h2 => eo j (by omega))
  · rw [eF _ (by omega), a1]
    exact set_congr fun p hp => by rw [eu]
  · rw [eF _ (by omega), a2]
    exact set_congr fun p hp => by rw [es]
  · rw [eF _ (by omega), eo _ (by decide), a3]
  · rw [eF _ (by omega), eo _ (by decide), a4]
  · rw [eF _ (by omega), eo _ (by decide), a5]
  · rw [eF _ (by omega), eo _ (by decide), a6]
  · rw [eF _ (by omega), eo _ (by decide), a7]
  · obtain ⟨b0, b1, b2, b3, b4, b5⟩ := h.pp hp
    rw [eF (o + 2) (by omega), eF (o + 3) (by omega), eF (o + 4) (by omega), eF (o + 5) (by omega), eF (o + 6) (by omega), ep p 1 (by decide) (by decide), ep p 2 (by decide) (by decide), ep p 4 (by decide) (by decide), ep p 5 (by decide) (by decide), ep p 6 (by decide) (by decide), eu, pv_upd (by decide) (by decide)]
    refine ⟨?_, b1, b2, b3, b4, b5⟩
    by_cases h : p = k
    · subst h
      rw [if_pos ⟨rfl, rfl⟩, mst_oo]
    · rw [if_neg (fun z => h z.1), mst_nk h, b0]
  · rw [eF (o + 3) (by omega), eF (o + 4) (by omega), eF (o + 6) (by omega)]
    exact h.p0 hp hp8
/-- one heavier by l -/
def moW (W : Nat → Int32) (k w l : Nat) : Nat → Int32 := upd W (8 + 7 * k + 0) (nI (w + l))
theorem moW_c {W : Nat → Int32} {k w l p c : Nat} (hc : c < 7) (h : c ≠ 0) : pv (moW W k w l) p c = pv W p c := pv_un (by decide) hc (Or.inr h)
theorem moW_up {W : Nat → Int32} {k w l p : Nat} : upB (moW W k w l) p = upB W p := by unfold upB; rw [moW_c (by decide) (by decide)]
theorem moW_ho {W : Nat → Int32} {k w l p : Nat} : hoB (moW W k w l) p = hoB W p := by unfold hoB slB; rw [moW_up, moW_c (by decide) (by decide)]
theorem moW_hos {W : Nat → Int32} {k w l : Nat} : hoS n (moW W k w l) = hoS n W := set_congr fun p hp => by rw [moW_ho]
theorem moW_by {W : Nat → Int32} {k w l p : Nat} : rBy n (moW W k w l) p = rBy n W p := by unfold rBy; rw [moW_hos, moW_c (by decide) (by decide)]
theorem moW_rg {W : Nat → Int32} {k w l p : Nat} : rgN n (moW W k w l) p = rgN n W p := by unfold rgN; rw [moW_c (by decide) (by decide)]
theorem moW_w {W : Nat → Int32} {k w l p : Nat} (hk : k < n) (hl : w + l < 2 ^ 31) : wN n (moW W k w l) p = if p = k then w + l else wN n W p := by
  unfold wN moW
  rw [pv_upd (by decide) (by decide)]
  by_cases hp : p = k
  · rw [if_pos (show p < n by rw [hp]; exact hk), if_pos (show p = k ∧ 0 = 0 from ⟨hp, rfl⟩), if_pos hp, i_toInt hl]; rfl
  · rw [if_neg (show ¬ (p = k ∧ 0 = 0) from fun z => hp z.1), if_neg hp]
theorem moW_hg {W : Nat → Int32} {k w l : Nat} : hgS n (moW W k w l) = hgS n W := set_congr fun p hp => by
  unfold hgB
  rw [moW_by, moW_c (by decide) (by decide)]
theorem moW_sf {W : Nat → Int32} (h : SF n W) {k w l : Nat} (hl : w + l ≤ 999) : SF n (moW W k w l) := by
  refine ⟨h.1, fun p hp => ?_, fun p hp => ?_⟩
  · rw [moW_by, moW_c (by decide) (by decide)]
    refine ⟨(h.2.1 p hp).1, (h.2.1 p hp).2.1, fun q hq e => ?_⟩
    rw [moW_c (by decide) (by decide)]
    exact (h.2.1 p hp).2.2 q hq e
  · unfold moW
    rw [pv_upd (by decide) (by decide)]
    by_cases hpk : p = k
    · rw [if_pos ⟨hpk, rfl⟩]; exact ⟨w + l, hl, rfl⟩
    · rw [if_neg fun z => hpk z.1]; exact h.2.2 p hp
def moB (n : Nat) (W : Nat → Int32) (k w l : Nat) : Bool := stB n (moW W k w l) (fun _ => 0)
theorem moB_iff {W : Nat → Int32} (hw : WF n W) (hg : hgS n W = 0) {k w l : Nat} (hl : w + l ≤ 999) : moB n W k w l = true ↔ ∀ p, p < n → hoB W p = true → ∃ x, pv W p 2 = nI x ∧ x ≤ 999 ∧ nLd n (moW W k w l) p ≤ x := by
  have h8 := hw.2.1
  have sf := moW_sf hw.sf (k := k) hl
  have hT := wT_le sf
  unfold moB stB
  rw [moW_hg, hg, Int32.or_zero]
  have bit : ∀ p, p < 8 → hs (gwS n (moW W k w l) (fun _ => 0)) p = (decide (p < n) && (hoB W p && !decide (rCar n (moW W k w l) (fun _ => 0) p ≤ pv W p 2))) := fun p hp => by
    unfold gwS
    rw [hs_set8 hp, moW_ho, moW_c (by decide) (by decide)]
  constructor
  · intro h p hp hh
    obtain ⟨x, hx, ex⟩ := (hw.2.2.2.1 p hp).2.2.1
    refine ⟨x, ex, hx, ?_⟩
    have b := bit p (by omega)
    have hl' := (ld_n sf (b := fun _ => 0) (show p < 8 by omega)).2
    rw [of_decide_eq_true h, hs_0, decide_eq_true hp, hh, Bool.true_and, Bool.true_and, (ld_n sf (by omega)).1, ex, i_le (by omega) (by omega)] at b
    refine Classical.byContradiction fun hc => ?_
    rw [decide_eq_false hc] at b
    cases b
  · intro h
    refine decide_eq_true (S8.ext (S8.set _) S8.zero fun p hp => ?_)
    rw [hs_0]
    refine (bit p hp).trans ?_
    by_cases hpn : p < n
    · rw [decide_eq_true hpn, Bool.true_and]
      cases hh : hoB W p
      · rfl
      · obtain ⟨x, ex, hx, hle⟩ := h p hpn hh
        have hl' := (ld_n sf (b := fun _ => 0) hp).2
        rw [(ld_n sf hp).1, ex, i_le (by omega) (by omega), decide_eq_true hle]
        rfl
    · rw [decide_eq_false hpn, Bool.false_and]
theorem moB_mono {W : Nat → Int32} (hw : WF n W) (hg : hgS n W = 0) {k w l l' : Nat} (hk : k < n) (hle : l ≤ l') (hl : w + l' ≤ 999) (h : moB n W k w l' = true) : moB n W k w l = true := by
  refine (moB_iff hw hg (by omega)).mpr fun p hp hh => ?_
  obtain ⟨x, ex, hx, hq⟩ := (moB_iff hw hg hl).mp h p hp hh
  refine ⟨x, ex, hx, Nat.le_trans (nLd_mono (W := moW W k w l) (W' := moW W k w l') (fun p _ => by rw [moW_rg, moW_rg]) (fun p _ _ => by rw [moW_by, moW_by]) (fun p => ?_) p) hq⟩
  rw [moW_w hk (by omega), moW_w hk (by omega)]
  by_cases hpk : p = k
  · rw [if_pos hpk, if_pos hpk]; omega
  · rw [if_neg hpk, if_neg hpk]; exact Nat.le_refl _
theorem m_more {W : Nat → Int32} (hw : WF n W) (hg : hgS n W = 0) {N : mM} (e : N 216 = W) {k w l : Nat} (hk : k < n) (ew : pv W k 0 = nI w) : ∃ N', f_X12_bearsMore (nI k) (nI l) N = some (moB n W k w l, N') ∧ ∀ z, z ≠ 221 → N' z = N z := by
  have h8 := hw.2.1
  have ew' : W (8 + 7 * k + 0) = nI w := ew
  unfold f_X12_bearsMore
  rw [show f_X12_at (nI k) (0 : Int32) = nI (8 + 7 * k + 0) from i_at (c := 0), gd_t (i_in (by omega) (by decide)), gd_t (i_in (by omega) (by decide)), wr_e, i_ix (by omega), mst_rs N, e, ew', nI_add]
  change ∃ N', b2 (f_X12_givesWay (rs N 216 (moW W k w l))) _ = _ ∧ _
  have hn' : (rs N 216 (moW W k w l)) 216 0 = nI n := by rw [rs_at]; unfold moW; rw [upd_ne (by omega)]; exact hw.1
  rw [m_gives (n := n) hn' h8, b2_s, rs_at, gwS_in _ (fun _ => 0), dn]
  generalize rCar n (moW W k w l) (rs N 216 (moW W k w l) 221) = B
  have hd : decide (gwS n (moW W k w l) (fun _ => 0) = 0) = moB n W k w l := by
    unfold moB stB
    rw [moW_hg, hg, Int32.or_zero]
  rw [hd]
  have fin : ∀ b : Bool, ∃ N', f_X12_bearsMore_16 (nI k) (nI l) b (rs (rs N 216 (moW W k w l)) 221 B) = some (b, N') ∧ ∀ z, z ≠ 221 → N' z = N z := fun b => by
    unfold f_X12_bearsMore_16
    rw [show f_X12_at (nI k) (0 : Int32) = nI (8 + 7 * k + 0) from i_at (c := 0), gd_t (i_in (by omega) (by decide)), gd_t (i_in (by omega) (by decide)), wr_e, i_ix (by omega), rs_ne (show 216 ≠ 221 by decide), rs_at]
    refine ⟨_, rfl, fun z hz => ?_⟩
    by_cases h6 : z = 216
    · rw [h6, mst_rs, rs_at, rs_ne (by decide), rs_at, e]
      unfold moW
      rw [upd_at, upd_upd, pk_sub (by omega), show w + l - l = w by omega, ← ew', upd_self]
    · rw [mst_no h6, rs_ne hz, rs_ne h6]
  cases moB n W k w l
  · rw [Bool.not_false, cond_true]
    exact fin false
  · rw [Bool.not_true, cond_false]
    exact fin true
def moG (ok : Nat → Bool) : Nat → Nat
  | 0 => 0
  | l + 1 => bif ok (l + 1) then l + 1 else moG ok l
theorem moG_s (ok : Nat → Bool) (l : Nat) : moG ok (l + 1) = bif ok (l + 1) then l + 1 else moG ok l := rfl
theorem moG_le (ok : Nat → Bool) : ∀ l, moG ok l ≤ l := by
  intro l
  induction l with
  | zero => exact Nat.le_refl _
  | succ l ih =>
    rw [moG_s]
    cases ok (l + 1)
    · exact Nat.le_succ_of_le ih
    · exact Nat.le_refl _
theorem moG_j {ok : Nat → Bool} {j : Nat} (h1 : ∀ i, i < j → ok (i + 1) = true) (h2 : ∀ l, j < l → l ≤ 99 → ok l = false) : ∀ l, j ≤ l → l ≤ 99 → moG ok l = j := by
  intro l
  induction l with
  | zero => intro h _; rw [show j = 0 by omega]; rfl
  | succ l ih =>
    intro hj hl
    rw [moG_s]
    by_cases e : j = l + 1
    · subst e
      rw [h1 l (by omega), cond_true]
    · rw [h2 (l + 1) (by omega) hl, cond_false]
      exact ih (by omega) (by omega)
theorem Op_more (h : Rl n M) {p : Int32} : OpT M (f_X11_more p) (f_X12_more p) tIS := by
  have h8 := h.h8
  have hn := h.hn
  cases hP : isP n p
  · refine OpT.q h (r := .inr 2) (M1 := M) ?_ CQ.rf (fun Mo e hr => ⟨0, mst (mst Mo 215 0 0) 215 0 1, ?_, rq_thr.1, rq_thr.2.1, rq_thr.2.2, by decide⟩)
    · unfold f_X11_more
      rw [C_mustP h, hP, cond_false, tb_r]
    · unfold f_X12_more
      rw [wr_e, b1_a (m_nb h e), hP, m_tIf, b2_s, Bool.not_false, cond_true, cond_true]
  · obtain ⟨k, hk, rfl⟩ := isP_of h8 hP
    have hM : ∀ Mo : mM, Mo 216 = M 216 → f_X12_more (nI k) Mo = f_X12_more_18 (nI k) (!upB (M 216) k) (mst Mo 215 0 0) := fun Mo e => by
      unfold f_X12_more
      rw [wr_e, b1_a (m_nb h e), hP, m_tIf, b2_s, Bool.not_true, cond_false, cond_false, m_isUp (by omega), b1_s, mst_no (by decide), e]
      cases upB (M 216) k
      · rw [cond_false, Bool.not_false]
      · rw [cond_true, Bool.not_true]
    cases hU : upB (M 216) k
    · refine OpT.q h (r := .inr 4) (M1 := M) ?_ CQ.rf (fun Mo e hr => ⟨0, mst (mst Mo 215 0 0) 215 0 2, ?_, rq_thr.1, rq_thr.2.1, rq_thr.2.2, by decide⟩)
      · unfold f_X11_more
        rw [C_mustP h, hP, cond_true, tb_l, C_mustUp h hk, hU, cond_false, tb_r]
      · rw [hM Mo e, hU, Bool.not_false]
        unfold f_X12_more_18
        rw [m_tIf, b2_s, cond_true, cond_true]
    · obtain ⟨w, hw1, hw2, ew⟩ := (h.wf.2.2.2.1 k hk).1
      have hg : hgS n (M 216) = 0 := (or0.mp (of_decide_eq_true h.st)).2
      have W0 : moW (M 216) k w 0 = M 216 := by
        unfold moW
        rw [show nI (w + 0) = M 216 (8 + 7 * k + 0) from ew.symm]
        exact upd_self _ _
      obtain ⟨e1, t1, f1⟩ := C_to47 h
      -- the first that fails
      obtain ⟨j, hj, hok, hno⟩ : ∃ j, j ≤ 99 ∧ (∀ i, i < j → moB n (M 216) k w (i + 1) = true) ∧ (j < 99 → moB n (M 216) k w (j + 1) = false) := by
        rcases first_or (fun i => !moB n (M 216) k w (i + 1)) 99 with ⟨j, hj, h1, h2⟩ | h2
        · refine ⟨j, by omega, fun i hi => ?_, fun _ => ?_⟩
          · have := h2 i hi
            cases e : moB n (M 216) k w (i + 1)
            · rw [e] at this; cases this
            · rfl
          · cases e : moB n (M 216) k w (j + 1)
            · rfl
            · rw [e] at h1; cases h1
        · refine ⟨99, Nat.le_refl _, fun i hi => ?_, fun hc => by omega⟩
          have := h2 i hi
          cases e : moB n (M 216) k w (i + 1)
          · rw [e] at this; cases this
          · rfl
      have hC : ∃ M1, f_X11_more_l15 (nI k) 0 1 (cpT 47 35 M) = some (.inl (nI j), M1) ∧ ∀ z, (z < 47 ∨ 58 < z) → M1 z = M z := by
        unfold f_X11_more_l15
        refine wh_N (fun i (s : Int32 × Int32 × mM) => s.1 = nI i ∧ s.2.1 = nI (i + 1) ∧ TR n (moW (M 216) k w i) s.2.2 47 ∧ ∀ z, (z < 47 ∨ 58 < z) → s.2.2 z = M z) (fun N' => ((Sum.inl (nI j) : Int32 ⊕ Nat), N')) _ j _ _ ⟨rfl, rfl, by show TR n (moW (M 216) k w 0) (cpT 47 35 M) 47; rw [W0]; exact t1.1, f1⟩ (fun i hi s hs' => ?_) (fun s hs' => ?_) (by omega)
        · obtain ⟨a, b, N⟩ := s
          obtain ⟨h1, h2, h3, h4⟩ := hs'
          dsimp only at h1 h2 h3 h4
          subst h1 h2
          show ∃ s', f_X11_more_15 (nI k) (nI i) (nI (i + 1)) N = some (.inr s') ∧ _
          unfold f_X11_more_15
          have e99 : decide ((99 : Int32) < nI (i + 1)) = false := (i_lt (a := 99) (by decide) (by omega)).trans (decide_eq_false (by omega))
          have e36 : N 36 k = nI w := by rw [h4 36 (by decide)]; exact ((h.tr.pp hk).1).trans ew
          rw [e99, cond_false, gd_t (i_in (by omega) i_28), gd_t (i_in (by omega) i_28), wr_e, i_ix (by omega), e36, nI_add, i_1]
          have t2 : TR n (moW (M 216) k w (i + 1)) (mst N 48 k (nI (w + (i + 1)))) 47 := by
            have := h3.wt (k := k) (v := nI (w + (i + 1))) h8 hk
            unfold moW at this ⊢
            rw [upd_upd] at this
            exact this
          obtain ⟨M', g1, g2⟩ := t2.stands0 T47
          rw [g1, b2_s, show stB n (moW (M 216) k w (i + 1)) (fun _ => 0) = true from hok i hi, cond_true]
          exact ⟨_, rfl, rfl, rfl, t2.o8 h8 g2, fun z hz => (g2 z (by omega)).trans ((mst_no (by omega)).trans (h4 z hz))⟩
        · obtain ⟨a, b, N⟩ := s
          obtain ⟨h1, h2, h3, h4⟩ := hs'
          dsimp only at h1 h2 h3 h4
          subst h1 h2
          show ∃ N', f_X11_more_15 (nI k) (nI j) (nI (j + 1)) N = some (.inl (.inl (nI j), N')) ∧ _
          unfold f_X11_more_15
          by_cases h99 : j < 99
          · have e99 : decide ((99 : Int32) < nI (j + 1)) = false := (i_lt (a := 99) (by decide) (by omega)).trans (decide_eq_false (by omega))
            have e36 : N 36 k = nI w := by rw [h4 36 (by decide)]; exact ((h.tr.pp hk).1).trans ew
            rw [e99, cond_false, gd_t (i_in (by omega) i_28), gd_t (i_in (by omega) i_28), wr_e, i_ix (by omega), e36, nI_add]
            have t2 : TR n (moW (M 216) k w (j + 1)) (mst N 48 k (nI (w + (j + 1)))) 47 := by
              have := h3.wt (k := k) (v := nI (w + (j + 1))) h8 hk
              unfold moW at this ⊢
              rw [upd_upd] at this
              exact this
            obtain ⟨M', g1, g2⟩ := t2.stands0 T47
            rw [g1, b2_s, show stB n (moW (M 216) k w (j + 1)) (fun _ => 0) = false from hno h99, cond_false]
            exact ⟨_, rfl, fun z hz => (g2 z (by omega)).trans ((mst_no (by omega)).trans (h4 z hz))⟩
          · have ej : j = 99 := by omega
            subst ej
            rw [show decide ((99 : Int32) < nI (99 + 1)) = true from rfl, cond_true]
            exact ⟨_, rfl, h4⟩
      obtain ⟨M1, c1, c2⟩ := hC
      have hG : moG (moB n (M 216) k w) 99 = j := moG_j hok (fun l h1 h2 => by
        cases e : moB n (M 216) k w l
        · rfl
        · have := hno (by omega)
          rw [moB_mono h.wf hg hk (show j + 1 ≤ l by omega) (by omega) e] at this
          cases this) 99 hj (Nat.le_refl _)
      refine OpT.q h (r := .inl (nI j)) (M1 := M1) ?_ (CQ.hi fun z hz => c2 z (by omega)) (fun Mo e hr => ?_)
      · unfold f_X11_more
        rw [C_mustP h, hP, cond_true, tb_l, C_mustUp h hk, hU, cond_true, tb_l, b2_a e1, c1]
      · have hL : ∃ M2, f_X12_more_l27 (nI k) 0 1 (mst Mo 215 0 0) = some (nI j, M2) ∧ ∀ z, z ≠ 221 → M2 z = mst Mo 215 0 0 z := by
          unfold f_X12_more_l27
          rw [← hG]
          obtain ⟨A, hA⟩ : ∃ A : Nat → Nat, ∀ k', A k' = moG (moB n (M 216) k w) k' := ⟨_, fun _ => rfl⟩
          rw [← hA 99]
          refine wh_V (fun i (s : Int32 × Int32 × mM) => s.1 = nI (A i) ∧ s.2.1 = nI (i + 1) ∧ ∀ z, z ≠ 221 → s.2.2 z = mst Mo 215 0 0 z) _ _ 99 _ _ ⟨by rw [hA 0]; rfl, rfl, fun _ _ => rfl⟩ (fun i hi s hs' => ?_) (fun s hs' => ?_) (by decide)
          · obtain ⟨a, b, N⟩ := s
            obtain ⟨h1, h2, h4⟩ := hs'
            dsimp only at h1 h2 h4
            subst h1 h2
            have N216 : N 216 = M 216 := (h4 216 (by decide)).trans (by rw [mst_no (by decide), e])
            show ∃ s', f_X12_more_27 (nI k) (nI (A i)) (nI (i + 1)) N = some (.inr s') ∧ _
            unfold f_X12_more_27
            have e99 : decide ((99 : Int32) < nI (i + 1)) = false := (i_lt (a := 99) (by decide) (by omega)).trans (decide_eq_false (by omega))
            obtain ⟨N', g1, g2⟩ := m_more h.wf hg N216 (l := i + 1) hk ew
            rw [e99, cond_false, g1, b2_s, i_1]
            have eA : A (i + 1) = bif moB n (M 216) k w (i + 1) then i + 1 else A i := by rw [hA, hA, moG_s]
            cases hb : moB n (M 216) k w (i + 1)
            · rw [hb, cond_false] at eA
              rw [cond_false]
              exact ⟨_, rfl, by rw [eA], rfl, fun z hz => (g2 z hz).trans (h4 z hz)⟩
            · rw [hb, cond_true] at eA
              rw [cond_true]
              exact ⟨_, rfl, by rw [eA], rfl, fun z hz => (g2 z hz).trans (h4 z hz)⟩
          · obtain ⟨a, b, N⟩ := s
            obtain ⟨h1, h2, h4⟩ := hs'
            dsimp only at h1 h2 h4
            subst h1 h2
            show ∃ M', f_X12_more_27 (nI k) (nI (A 99)) (nI (99 + 1)) N = _ ∧ _
            unfold f_X12_more_27
            rw [show decide ((99 : Int32) < nI (99 + 1)) = true from rfl, cond_true]
            exact ⟨_, rfl, h4⟩
        obtain ⟨M2, d1, d2⟩ := hL
        refine ⟨nI j, M2, ?_, rq_00.tr (RQ.of (fun z _ _ z3 _ _ => d2 z z3) fun q _ => by rw [d2 215 (by decide)]), by rw [d2 231 (by decide), mst_no (by decide)], rfl, by rw [d2 215 (by decide), mst_oo]⟩
        rw [hM Mo e, hU, Bool.not_true]
        unfold f_X12_more_18
        rw [m_tIf, b2_s, cond_false, cond_false, d1]
end
