/-! ask, the op -/
def akF (c : Nat → Bool) (g : Nat → Nat) (k : Nat) (s : Int32 × Nat) : Int32 × Nat := bif c k then (bif decide (s.2 ≤ g k) then s else (nI k, g k)) else s
def akS (c : Nat → Bool) (g : Nat → Nat) (k : Nat) : Int32 × Nat := itr (akF c g) ((-1 : Int32), 1000000) k
theorem akS_i (c : Nat → Bool) (g : Nat → Nat) : ∀ k, ((akS c g k).1 = -1 ∧ (akS c g k).2 = 1000000) ∨ ∃ j, j < k ∧ c j = true ∧ (akS c g k).1 = nI j ∧ (akS c g k).2 = g j := by
  intro k
  induction k with
  | zero => exact Or.inl ⟨rfl, rfl⟩
  | succ k ih =>
    have ih' : ((akS c g k).1 = -1 ∧ (akS c g k).2 = 1000000) ∨ ∃ j, j < k + 1 ∧ c j = true ∧ (akS c g k).1 = nI j ∧ (akS c g k).2 = g j := ih.imp id fun ⟨j, a, b⟩ => ⟨j, by omega, b⟩
    show ((akF c g k (akS c g k)).1 = -1 ∧ (akF c g k (akS c g k)).2 = 1000000) ∨ ∃ j, j < k + 1 ∧ c j = true ∧ (akF c g k (akS c g k)).1 = nI j ∧ (akF c g k (akS c g k)).2 = g j
    unfold akF
    cases e : c k
    · exact ih'
    · cases decide ((akS c g k).2 ≤ g k)
      · exact Or.inr ⟨k, by omega, e, rfl, rfl⟩
      · exact ih'
section
variable {n : Nat} {M : mM}
def akC (n : Nat) (W : Nat → Int32) (p k : Nat) : Bool := decide (k < n) && (hoB W k && !decide (p = k))
theorem akS_n {W : Nat → Int32} {p : Nat} {g : Nat → Nat} (h8 : n ≤ 8) : akS (akC n W p) g 8 = akS (akC n W p) g n := itr_n (fun k h1 _ z => by unfold akF akC; rw [decide_eq_false (show ¬ k < n by omega)]; rfl) 8 h8 (Nat.le_refl 8)
theorem C_best {W : Nat → Int32} (hw : WF n W) {L : List Nat} {N : mM} {S : Int32} {c : Nat → Bool} (hk : kpt n W L N) (hl : L.length ≤ 256) (hS : ∀ k, k < 8 → hs S k = c k) {g : Nat → Nat} (hg : ∀ q, q < 8 → isG (ldN n W q) L (g q)) (hgb : ∀ q, q < 8 → g q ≤ 256) : ∃ N', f_X6_bestToAsk S N = some (bif decide (2 ≤ L.length) then (akS c g 8).1 else -1, N') ∧ ∀ z, z ≠ 9 → N' z = N z := by
  have e2 : ∀ X : mM, (∀ z, z ≠ 9 → X z = N z) → decide (X 5 4 < (2 : Int32)) = decide (L.length < 2) := fun X hX => by rw [hX 5 (by decide), hk.1]; exact i_lt (b := 2) (by omega) (by decide)
  unfold f_X6_bestToAsk f_X6_bestToAsk_l6
  by_cases h2 : 2 ≤ L.length
  · rw [decide_eq_true h2, cond_true]
    refine wh_V (fun k (s : Int32 × Int32 × Int32 × mM) => s.1 = (akS c g k).1 ∧ (s.1 = -1 ∨ s.2.1 = nI (akS c g k).2) ∧ s.2.2.1 = nI k ∧ ∀ z, z ≠ 9 → s.2.2.2 z = N z) _ _ 8 _ _ ⟨rfl, Or.inl rfl, rfl, fun _ _ => rfl⟩ (fun k hk' s hs' => ?_) (fun s hs' => ?_) (by decide)
    · obtain ⟨a, b, i, X⟩ := s
      obtain ⟨h1, hb, h3, h4⟩ := hs'
      dsimp only at h1 hb h3 h4
      subst h1 h3
      have hi := akS_i c g k
      have es : akS c g (k + 1) = akF c g k (akS c g k) := rfl
      rw [es]
      generalize akS c g k = s at hi hb ⊢
      show ∃ s', f_X6_bestToAsk_6 S s.1 b (nI k) X = some (.inr s') ∧ _
      unfold f_X6_bestToAsk_6 akF
      rw [bif_f (i_8 hk'), e2 X h4, decide_eq_false (show ¬ L.length < 2 by omega), cond_false, has_hs (by omega), hS k hk', i_1]
      cases hc : c k
      · rw [cond_false, cond_false]
        exact ⟨_, rfl, rfl, hb, rfl, h4⟩
      · have kX : kpt n W L X := ⟨by rw [h4 5 (by decide)]; exact hk.1, fun i t ht => by rw [h4 6 (by decide), h4 7 (by decide)]; exact hk.2 i t ht⟩
        obtain ⟨v, X', g1, g2, g3, g4⟩ := C_part hw kX hl hk'
        have ev : v = g k := isG_eq g2 (hg k hk')
        subst ev
        have F : ∀ z, z ≠ 9 → X' z = N z := fun z hz => (g4 z hz).trans (h4 z hz)
        rw [cond_true, cond_true, g1, b2_s]
        rcases hi with ⟨i1, i2⟩ | ⟨j, hj, hcj, i1, i2⟩
        · rw [i1, i2, show decide ((-1 : Int32) = -1) = true from rfl, cond_true, decide_eq_false (show ¬ 1000000 ≤ g k by omega), cond_false]
          exact ⟨_, rfl, rfl, Or.inr rfl, rfl, F⟩
        · have hne : ¬ nI j = (-1 : Int32) := fun z => nI_pos (show j < 2 ^ 31 by omega) (by rw [z]; decide)
          have hbj : b = nI (g j) := by
            rcases hb with hb | hb
            · rw [i1] at hb; exact absurd hb hne
            · rw [hb, i2]
          have gj := hgb j (by omega)
          rw [i1, i2, decide_eq_false hne, cond_false, hbj, i_le (by omega) (by omega)]
          cases hle : decide (g j ≤ g k)
          · rw [cond_false, cond_false]
            exact ⟨_, rfl, rfl, Or.inr rfl, rfl, F⟩
          · rw [cond_true, cond_true]
            exact ⟨_, rfl, i1.symm, Or.inr (by rw [i2]), rfl, F⟩
    · obtain ⟨a, b, i, X⟩ := s
      obtain ⟨h1, hb, h3, h4⟩ := hs'
      dsimp only at h1 hb h3 h4
      subst h1 h3
      show ∃ M', f_X6_bestToAsk_6 S _ b (nI 8) X = _ ∧ _
      unfold f_X6_bestToAsk_6
      rw [bif_t i_88]
      exact ⟨_, rfl, h4⟩
  · rw [decide_eq_false h2, cond_false]
    refine ⟨N, ?_, fun _ _ => rfl⟩
    refine wh_ne (fun k => ((-1 : Int32), (0 : Int32), nI k, N)) 8 _ (by decide) rfl (fun k hk' => ?_) ?_
    · show f_X6_bestToAsk_6 S (-1) 0 (nI k) N = _
      unfold f_X6_bestToAsk_6
      rw [bif_f (i_8 hk'), e2 N (fun _ _ => rfl), decide_eq_true (show L.length < 2 by omega), cond_true, i_1]
    · show f_X6_bestToAsk_6 S (-1) 0 (nI 8) N = _
      unfold f_X6_bestToAsk_6
      rw [bif_t i_88]
theorem m_best {W : Nat → Int32} (hw : WF n W) {N : mM} (e : N 216 = W) (ht : tab n W 256 N) {p : Nat} (hp : p < n) {g : Nat → Nat} (hg : ∀ q, q < 8 → isG (ldN n W q) (flt (feB n W p) 256) (g q)) (hgb : ∀ q, q < 8 → g q ≤ 256) : f_X12_ask_l22 (nI p) (-1) 1000000 0 N = some ((akS (akC n W p) g 8).1, N) := by
  have h8 := hw.2.1
  have hn' : N 216 0 = nI n := by rw [e]; exact hw.1
  rw [akS_n h8]
  unfold f_X12_ask_l22
  refine wh_ne (fun k => ((akS (akC n W p) g k).1, nI (akS (akC n W p) g k).2, nI k)) n _ (by omega) rfl (fun k hk => ?_) ?_
  · have hi := akS_i (akC n W p) g k
    show f_X12_ask_22 (nI p) (akS (akC n W p) g k).1 (nI (akS (akC n W p) g k).2) (nI k) N = some (.inr ((akF (akC n W p) g k (akS (akC n W p) g k)).1, nI (akF (akC n W p) g k (akS (akC n W p) g k)).2, nI (k + 1)))
    generalize akS (akC n W p) g k = s at hi ⊢
    have hb : s.2 ≤ 1000000 := by
      rcases hi with ⟨-, e⟩ | ⟨j, hj, hh, -, e⟩
      · omega
      · have := hgb j (by omega)
        omega
    unfold f_X12_ask_22 f_X12_ask_38
    rw [m_ppl hn', b1_s, bif_f (i_len hk h8), m_holds (by omega), b1_s, e, i_eq (by omega) (by omega)]
    have stay : f_X12_ask_39 (nI p) s.1 (nI s.2) (nI k) 1000000 N = some (.inr (s.1, nI s.2, nI (k + 1))) := by
      unfold f_X12_ask_39 f_X12_ask_46
      rw [show (1000000 : Int32) = nI 1000000 from rfl, i_le (by omega) (by decide), decide_eq_true hb, cond_true, mMin_n (by omega) (by decide), Nat.min_eq_left hb, i_1]
    unfold akF akC
    rw [decide_eq_true hk, Bool.true_and, stay]
    by_cases hpk : p = k
    · rw [decide_eq_true hpk, decide_eq_true hpk.symm, Bool.not_true, Bool.and_false, cond_true, cond_false]
    · rw [decide_eq_false hpk, decide_eq_false (Ne.symm hpk), Bool.not_false, Bool.and_true, cond_false]
      cases hh : hoB W k
      · rw [cond_false, cond_false]
      · obtain ⟨v, g1, g2⟩ := m_part hw e ht hp hk
        have ev : v = g k := isG_eq g2 (hg k (by omega))
        subst ev
        have gk := hgb k (by omega)
        unfold f_X12_ask_39 f_X12_ask_46
        rw [cond_true, cond_true, g1, b1_s, i_le (by omega) (by omega), mMin_n (by omega) (by omega), i_1]
        by_cases hle : s.2 ≤ g k
        · rw [decide_eq_true hle, cond_true, cond_true, Nat.min_eq_left hle]
        · rw [decide_eq_false hle, cond_false, cond_false, Nat.min_eq_right (by omega)]
  · show f_X12_ask_22 (nI p) _ _ (nI n) N = _
    unfold f_X12_ask_22
    rw [m_ppl hn', b1_s, bif_t (i_lee n)]
theorem Op_ask (h : Rl n M) {p : Int32} : OpT M (f_X11_ask p) (f_X12_ask p) tIS := by
  have h8 := h.h8
  cases hP : isP n p
  · refine OpT.q h (r := .inr 2) (M1 := M) ?_ CQ.rf (fun Mo e hr => ⟨0, mst (mst Mo 215 0 0) 215 0 1, ?_, rq_thr.1, rq_thr.2.1, rq_thr.2.2, by decide⟩)
    · unfold f_X11_ask
      rw [C_mustP h, hP, cond_false, tb_r]
    · unfold f_X12_ask
      rw [M_canFe h e, hP, cond_false, b2_s, cond_true]
  · obtain ⟨k, hk, rfl⟩ := isP_of h8 hP
    cases hU : hoB (M 216) k
    · refine OpT.q h (r := .inr 4) (M1 := M) ?_ CQ.rf (fun Mo e hr => ⟨0, mst (mst Mo 215 0 0) 215 0 2, ?_, rq_thr.1, rq_thr.2.1, rq_thr.2.2, by decide⟩)
      · unfold f_X11_ask
        rw [C_mustP h, hP, cond_true, tb_l, C_mustHold h hk, hU, cond_false, tb_r]
      · unfold f_X12_ask
        rw [M_canFe h e, hP, cond_true, i_ix (by omega), hU, Bool.not_false]
        unfold f_X12_cannotFeel_18
        rw [m_tIf, b2_s, cond_true, cond_true, b2_s, cond_true]
    · obtain ⟨M1, a1, a2, a3⟩ := C_gather h (p := k) (q := k) (by omega) (by omega)
      have a2' : kpt n (M 216) (flt (feB n (M 216) k) 256) M1 := by
        have : flt (fun t => feB n (M 216) k t && feB n (M 216) k t) 256 = flt (feB n (M 216) k) 256 := flt_cg fun j _ => Bool.and_self _
        rw [← this]
        exact a2
      have hfl := flt_len (feB n (M 216) k) 256
      obtain ⟨g, hg⟩ : ∃ g : Nat → Nat, ∀ q, q < 8 → isG (ldN n (M 216) q) (flt (feB n (M 216) k) 256) (g q) := ⟨fun q => Classical.epsilon fun v => isG (ldN n (M 216) q) (flt (feB n (M 216) k) 256) v, fun q hq => by
        obtain ⟨v, -, -, hv, -⟩ := C_part h.wf a2' hfl hq
        exact Classical.epsilon_spec (p := fun v => isG (ldN n (M 216) q) (flt (feB n (M 216) k) 256) v) ⟨v, hv⟩⟩
      have hgb : ∀ q, q < 8 → g q ≤ 256 := fun q hq => by
        rcases (hg q hq).2 with e | ⟨t, -, e⟩
        · omega
        · have := cntL_le (ldN n (M 216) q) (ldN n (M 216) q t) (flt (feB n (M 216) k) 256)
          omega
      have e35 : M1 35 = M 35 := a3 35 (by decide) (by decide) (by decide) (by decide)
      have eho : f_X9_holders 35 M1 = some (hoS n (M 216)) := by rw [T_hold T35, e35, h.tr.ho]
      obtain ⟨M3, c1, c2⟩ := C_best h.wf (S := hoS n (M 216) &&& (f_X11_bit (nI k) ^^^ (-1 : Int32))) (c := akC n (M 216) k) a2' hfl (fun j hj => by
        unfold akC
        rw [hs_and, hs_nn (by omega), hs_hos hj, hs_bit (by omega) (by omega), Bool.and_assoc]) hg hgb
      refine OpT.q h (r := .inl (bif decide (2 ≤ (flt (feB n (M 216) k) 256).length) then (akS (akC n (M 216) k) g 8).1 else -1)) (M1 := M3) ?_ ((sC5 a3).tr (CQ.of fun z hz => c2 z (fun e => by (subst e; cases hz)))) (fun Mo e hr => ?_)
      · unfold f_X11_ask
        rw [C_mustP h, hP, cond_true, tb_l, C_mustHold h hk, hU, cond_true, tb_l, b2_a a1, eho, b1_s, c1, b2_s]
      · obtain ⟨M2, b1, b2, b3, b4⟩ := M_sleepers_lay h.wf (N := mst Mo 215 0 0) (by rw [mst_no (by decide), e])
        obtain ⟨q1, q2, q3⟩ := rq_tab e b2 b4
        refine ⟨_, M2, ?_, q1, q2, rfl, q3⟩
        unfold f_X12_ask
        rw [M_canFe h e, hP, cond_true, i_ix (by omega), hU, Bool.not_true]
        unfold f_X12_cannotFeel_18
        rw [m_tIf, b2_s, cond_false, cond_false, b2_s, cond_false, b2_a b1, (m_feelTo h.wf b2 b3 hk hk).1, b1_s, show decide ((2 : Int32) ≤ nI (flt (feB n (M 216) k) 256).length) = decide (2 ≤ (flt (feB n (M 216) k) 256).length) from i_le (a := 2) (by decide) (by omega)]
        cases decide (2 ≤ (flt (feB n (M 216) k) 256).length)
        · rw [cond_false, cond_false]
        · rw [cond_true, cond_true, m_best h.wf b2 b3 hk hg hgb]
end
