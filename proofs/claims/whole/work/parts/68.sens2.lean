/-! the reference's table of who sleeps; feels, sure, free, both -/
theorem wh_N {σ ρ : Type} {b : σ → Option (ρ ⊕ σ)} (P : Nat → σ → Prop) (g : mM → ρ) (R : mM → Prop) (N n : Nat) (s0 : σ) (h0 : P 0 s0) (hs : ∀ k, k < N → ∀ s, P k s → ∃ s', b s = some (.inr s') ∧ P (k + 1) s') (he : ∀ s, P N s → ∃ N', b s = some (.inl (g N')) ∧ R N') (hn : N < n) : ∃ N', wh n b s0 = some (g N') ∧ R N' := by
  obtain ⟨r, e1, N', e2, e3⟩ := wh_P P (fun r : ρ => ∃ N', r = g N' ∧ R N') N n s0 h0 hs (fun s hP => by
    obtain ⟨N', g1, g2⟩ := he s hP
    exact ⟨g N', g1, N', rfl, g2⟩) hn
  exact ⟨N', by rw [e1, e2], e3⟩
section
variable {n : Nat} {W : Nat → Int32}
def simW (n : Nat) (W X : Nat → Int32) : Prop := (∀ p c, p < 8 → c < 7 → (c ≠ 3 ∨ n ≤ p ∨ upB W p = false) → pv X p c = pv W p c) ∧ ∀ j, (j < 8 ∨ 64 ≤ j) → X j = W j
theorem simW.rf : simW n W W := ⟨fun _ _ _ _ _ => rfl, fun _ _ => rfl⟩
theorem simW.up {X : Nat → Int32} (h : simW n W X) {p : Nat} (hp : p < 8) : upB X p = upB W p := by
  unfold upB
  rw [h.1 p 5 hp (by decide) (Or.inl (by decide))]
theorem simW.st {X : Nat → Int32} (h : simW n W X) {p : Nat} (hp : p < n) (h8 : n ≤ 8) (hu : upB W p = true) {v : Int32} : simW n W (upd X (8 + 7 * p + 3) v) := ⟨fun q c hq hc hn => by
  rw [pv_un (by decide) hc (by
    by_cases hqp : q = p
    · subst hqp
      rcases hn with h1 | h1 | h1
      · exact Or.inr h1
      · omega
      · rw [hu] at h1; cases h1
    · exact Or.inl hqp)]
  exact h.1 q c hq hc hn, fun j hj => by rw [upd_ne (by omega)]; exact h.2 j hj⟩
theorem simW.eq {X : Nat → Int32} (h : simW n W X) (h8 : n ≤ 8) {t : Int32} (e : ∀ p, p < n → upB W p = true → pv X p 3 = mB (hs t p)) : X = slW n W t := by
  refine W_ext (fun p c hp hc => ?_) (fun k hk => by rw [sW_o hk, h.2 k hk])
  by_cases h3 : c = 3
  · subst h3
    by_cases hpn : p < n
    · rw [sW_3 hpn h8]
      cases hu : upB W p
      · exact h.1 p 3 hp (by decide) (Or.inr (Or.inr hu))
      · exact e p hpn hu
    · rw [sW_out (by omega) hp (by decide)]
      exact h.1 p 3 hp (by decide) (Or.inr (Or.inl (by omega)))
  · rw [sW_c hp hc h3]
    exact h.1 p c hp hc (Or.inl h3)
theorem simW.sl {t : Int32} : simW n W (slW n W t) := ⟨fun p c hp hc hn => by
  by_cases h3 : c = 3
  · subst h3
    by_cases hpn : p < n
    · have hu : upB W p = false := by
        rcases hn with h1 | h1 | h1
        · exact absurd rfl h1
        · omega
        · exact h1
      unfold slW
      rw [pXn_in hpn hp hc]
      unfold slF
      rw [if_pos rfl, hu]
      rfl
    · exact sW_out (by omega) hp hc
  · exact sW_c hp hc h3, fun j hj => sW_o hj⟩
theorem m_61 {N : mM} {u : Int32} {t : Nat} (hn : N 216 0 = nI n) (h8 : n ≤ 8) (ht : t < 256) : ∃ N', f_X12_laysSleepers_l61 u (nI t) 0 N = some (.inr (nI (t + 1), N')) ∧ (∀ p, p < n → N' 229 (8 * t + p) = N 221 p) ∧ (∀ j, (j < 8 * t ∨ 8 * t + 8 ≤ j) → N' 229 j = N 229 j) ∧ ∀ z, z ≠ 229 → N' z = N z := by
  unfold f_X12_laysSleepers_l61
  refine wh_N (fun k (s : Int32 × mM) => s.1 = nI k ∧ (∀ p, p < k → s.2 229 (8 * t + p) = N 221 p) ∧ (∀ j, (j < 8 * t ∨ 8 * t + 8 ≤ j) → s.2 229 j = N 229 j) ∧ ∀ z, z ≠ 229 → s.2 z = N z) (fun N' => Sum.inr (nI (t + 1), N')) _ n _ _ ⟨rfl, fun p hp => absurd hp (Nat.not_lt_zero p), fun _ _ => rfl, fun _ _ => rfl⟩ (fun k hk s hs' => ?_) (fun s hs' => ?_) (by omega)
  · obtain ⟨i, X⟩ := s
    obtain ⟨h1, h2, h3, h4⟩ := hs'
    dsimp only at h1 h2 h3 h4
    subst h1
    show ∃ s', f_X12_laysSleepers_61 u (nI t) (nI k) X = some (.inr s') ∧ _
    unfold f_X12_laysSleepers_61
    have e8 : (8 : Int32) * nI t + nI k = nI (8 * t + k) := by rw [show (8 : Int32) = nI 8 from rfl, pk_mul, nI_add]
    rw [m_ppl (n := n) (by rw [h4 216 (by decide)]; exact hn), b1_s, bif_f (i_len hk h8), e8, gd_t (i_in (show k < 8 by omega) i_28), gd_t (i_in (show 8 * t + k < 2048 by omega) (by decide)), wr_e, i_ix (by omega), i_ix (by omega), i_1]
    refine ⟨_, rfl, rfl, fun p hp => ?_, fun j hj => ?_, fun z hz => ?_⟩
    · by_cases hpk : p = k
      · subst hpk
        exact (mst_oo X 229 (8 * t + p) _).trans (by rw [h4 221 (by decide)])
      · exact (mst_nk (M := X) (o := 229) (show 8 * t + p ≠ 8 * t + k by omega)).trans (h2 p (by omega))
    · exact (mst_nk (M := X) (o := 229) (show j ≠ 8 * t + k by omega)).trans (h3 j hj)
    · exact (mst_no hz).trans (h4 z hz)
  · obtain ⟨i, X⟩ := s
    obtain ⟨h1, h2, h3, h4⟩ := hs'
    dsimp only at h1 h2 h3 h4
    subst h1
    show ∃ N', f_X12_laysSleepers_61 u (nI t) (nI n) X = some (Sum.inl (Sum.inr (nI (t + 1), N'))) ∧ _
    unfold f_X12_laysSleepers_61
    rw [m_ppl (n := n) (by rw [h4 216 (by decide)]; exact hn), b1_s, bif_t (i_lee n), i_1]
    exact ⟨X, rfl, h2, h3, h4⟩
theorem m_56 {N : mM} {X : Nat → Int32} {u : Int32} {t : Nat} {b : Bool} (e : N 216 = X) (hn : X 0 = nI n) (h8 : n ≤ 8) (ht : t < 256) : ∃ N', f_X12_laysSleepers_56 u (nI t) (nI t) b N = some (.inr (nI (t + 1), N')) ∧ N' 228 t = mB b ∧ (∀ j, j ≠ t → N' 228 j = N 228 j) ∧ (∀ p, p < n → N' 229 (8 * t + p) = rCar n X (fun _ => 0) p) ∧ (∀ j, (j < 8 * t ∨ 8 * t + 8 ≤ j) → N' 229 j = N 229 j) ∧ ∀ z, z ≠ 221 → z ≠ 228 → z ≠ 229 → N' z = N z := by
  unfold f_X12_laysSleepers_56
  rw [gd_t (i_in ht (by decide)), wr_e, i_ix (by omega)]
  have hb : vp_nar .boolean (mB b) = mB b := by cases b <;> rfl
  rw [hb]
  generalize hN1 : mst N 228 t (mB b) = N1
  have N216 : N1 216 = X := by rw [← hN1, mst_no (by decide), e]
  rw [m_lays (n := n) (by rw [N216]; exact hn) h8, b2_s, N216]
  obtain ⟨N', a1, a2, a3, a4⟩ := m_61 (N := rs N1 221 (rCar n X (N1 221))) (u := u) (t := t) (by rw [rs_ne (by decide), N216]; exact hn) h8 ht
  refine ⟨N', a1, ?_, fun j hj => ?_, fun p hp => ?_, fun j hj => ?_, fun z z1 z2 z3 => ?_⟩
  · rw [a4 228 (by decide), rs_ne (by decide), ← hN1, mst_oo]
  · rw [a4 228 (by decide), rs_ne (by decide), ← hN1, mst_nk hj]
  · rw [a2 p hp, rs_at]
    exact rCar_in (by omega)
  · rw [a3 j hj, rs_ne (by decide), ← hN1, mst_no (by decide)]
  · rw [a4 z z3, rs_ne z1, ← hN1, mst_no z2]
theorem m_24 {N : mM} {t : Nat} (hw : WF n W) (hsim : simW n W (N 216)) (ht : t < 256) : ∃ N', f_X12_laysSleepers_l24 (upS n W) (nI t) 0 N = some (.inr (nI (t + 1), N')) ∧ N' 216 = slW n W (nI t) ∧ N' 228 t = mB (nhB n W (nI t)) ∧ (∀ j, j ≠ t → N' 228 j = N 228 j) ∧ (∀ p, p < n → N' 229 (8 * t + p) = ldT n W (nI t) p) ∧ (∀ j, (j < 8 * t ∨ 8 * t + 8 ≤ j) → N' 229 j = N 229 j) ∧ ∀ z, z ≠ 216 → z ≠ 221 → z ≠ 228 → z ≠ 229 → N' z = N z := by
  have h8 := hw.2.1
  unfold f_X12_laysSleepers_l24
  refine wh_N (fun k (s : Int32 × mM) => s.1 = nI k ∧ simW n W (s.2 216) ∧ (∀ p, p < k → p < n → upB W p = true → pv (s.2 216) p 3 = mB (hs (nI t) p)) ∧ ∀ z, z ≠ 216 → s.2 z = N z) (fun N' => Sum.inr (nI (t + 1), N')) _ n _ _ ⟨rfl, hsim, fun p hp => absurd hp (Nat.not_lt_zero p), fun _ _ => rfl⟩ (fun k hk s hs' => ?_) (fun s hs' => ?_) (by omega)
  · obtain ⟨i, X⟩ := s
    obtain ⟨h1, h2, h3, h4⟩ := hs'
    dsimp only at h1 h2 h3 h4
    subst h1
    show ∃ s', f_X12_laysSleepers_24 (upS n W) (nI t) (nI k) X = some (.inr s') ∧ _
    unfold f_X12_laysSleepers_24 f_X12_laysSleepers_44
    rw [m_ppl (n := n) (by rw [h2.2 0 (by decide)]; exact hw.1), b1_s, bif_f (i_len hk h8), mhas_hs (by omega), hs_ups (by omega), decide_eq_true hk, Bool.true_and, mhas_hs (by omega), i_1]
    cases hu : upB W k
    · rw [cond_false]
      refine ⟨_, rfl, rfl, h2, fun p hp hpn hup => ?_, h4⟩
      by_cases hpk : p = k
      · subst hpk; rw [hu] at hup; cases hup
      · exact h3 p (by omega) hpn hup
    · have F : ∀ b : Bool, b = hs (nI t) k → ∃ s' : Int32 × mM, gd (mIn (f_X12_at (nI k) (3 : Int32)) 2122) (wr (mst X 216 (ix (f_X12_at (nI k) (3 : Int32))) (mB b)) (fun M1 => some (Sum.inr (nI (k + 1), M1)))) = (some (Sum.inr s') : Option (((Unit × mM) ⊕ (Int32 × mM)) ⊕ (Int32 × mM))) ∧ s'.1 = nI (k + 1) ∧ simW n W (s'.2 216) ∧ (∀ p, p < k + 1 → p < n → upB W p = true → pv (s'.2 216) p 3 = mB (hs (nI t) p)) ∧ ∀ z, z ≠ 216 → s'.2 z = N z := fun b hb => by
        rw [show (3 : Int32) = nI 3 from rfl, i_at, gd_t (i_in (by omega) (by decide)), wr_e, i_ix (by omega), mst_rs X]
        refine ⟨_, rfl, rfl, ?_, fun p hp hpn hup => ?_, fun z hz => (rs_ne hz).trans (h4 z hz)⟩
        · show simW n W (rs X 216 (upd (X 216) (8 + 7 * k + 3) (mB b)) 216)
          rw [rs_at]
          exact h2.st hk h8 hu
        · show pv (rs X 216 (upd (X 216) (8 + 7 * k + 3) (mB b)) 216) p 3 = _
          rw [rs_at, pv_upd (by decide) (by decide)]
          by_cases hpk : p = k
          · subst hpk; rw [if_pos ⟨rfl, rfl⟩, hb]
          · rw [if_neg fun z => hpk z.1]
            exact h3 p (by omega) hpn hup
      rw [cond_true]
      cases hb : hs (nI t) k
      · rw [cond_false]
        exact F false hb.symm
      · rw [cond_true]
        exact F true hb.symm
  · obtain ⟨i, X⟩ := s
    obtain ⟨h1, h2, h3, h4⟩ := hs'
    dsimp only at h1 h2 h3 h4
    subst h1
    have eX : X 216 = slW n W (nI t) := h2.eq h8 fun p hp hu => h3 p hp hp hu
    have hn' : X 216 0 = nI n := by rw [h2.2 0 (by decide)]; exact hw.1
    show ∃ N', f_X12_laysSleepers_24 (upS n W) (nI t) (nI n) X = some (Sum.inl (Sum.inr (nI (t + 1), N'))) ∧ _
    unfold f_X12_laysSleepers_24
    have fin : ∀ b : Bool, b = nhB n W (nI t) → ∃ N', b1 (f_X12_laysSleepers_56 (upS n W) (nI t) (nI t) b X) (fun r => some (Sum.inl r)) = (some (Sum.inl (Sum.inr (nI (t + 1), N'))) : Option (((Unit × mM) ⊕ (Int32 × mM)) ⊕ (Int32 × mM))) ∧ N' 216 = slW n W (nI t) ∧ N' 228 t = mB (nhB n W (nI t)) ∧ (∀ j, j ≠ t → N' 228 j = N 228 j) ∧ (∀ p, p < n → N' 229 (8 * t + p) = ldT n W (nI t) p) ∧ (∀ j, (j < 8 * t ∨ 8 * t + 8 ≤ j) → N' 229 j = N 229 j) ∧ ∀ z, z ≠ 216 → z ≠ 221 → z ≠ 228 → z ≠ 229 → N' z = N z := fun b hb => by
      obtain ⟨N', a1, a2, a3, a4, a5, a6⟩ := m_56 (u := upS n W) (b := b) eX (by rw [← eX]; exact hn') h8 ht
      rw [b1_a a1]
      refine ⟨N', rfl, by rw [a6 216 (by decide) (by decide) (by decide), eX], by rw [a2, hb], fun j hj => by rw [a3 j hj, h4 228 (by decide)], a4, fun j hj => by rw [a5 j hj, h4 229 (by decide)], fun z z1 z2 z3 z4 => by rw [a6 z z2 z3 z4, h4 z z1]⟩
    rw [m_ppl (n := n) hn', b1_s, bif_t (i_lee n), m_hging (n := n) hn' h8, b1_s, dn, eX]
    cases hh : decide (hgS n (slW n W (nI t)) = 0)
    · rw [Bool.not_false, cond_true]
      exact fin false hh.symm
    · rw [Bool.not_true, cond_false]
      exact fin true hh.symm
/-- the table, up to k -/
def tab (n : Nat) (W : Nat → Int32) (k : Nat) (N : mM) : Prop := ∀ t, t < k → N 228 t = mB (wi (nI t) (upS n W) && nhB n W (nI t)) ∧ (wi (nI t) (upS n W) = true → ∀ p, p < n → N 229 (8 * t + p) = ldT n W (nI t) p)
theorem M_sleepers_lay (hw : WF n W) {N : mM} (e : N 216 = W) : ∃ N', f_X12_laysSleepers N = some ((), N') ∧ N' 216 = W ∧ tab n W 256 N' ∧ ∀ z, z ≠ 216 → z ≠ 219 → z ≠ 221 → z ≠ 228 → z ≠ 229 → N' z = N z := by
  have h8 := hw.2.1
  unfold f_X12_laysSleepers f_X12_laysSleepers_l7
  rw [m_ups (n := n) (by rw [e]; exact hw.1) h8, b1_s, m_kp2 e, b2_s, e]
  generalize hN0 : rs N 219 (va_cpy W (N 219) 0 0 424) = N0
  have h219 : N0 219 = rs N 219 (va_cpy W (N 219) 0 0 424) 219 := by rw [hN0]
  have N216 : N0 216 = W := by rw [← hN0, rs_ne (by decide), e]
  refine wh_V (fun k (s : Int32 × mM) => s.1 = nI k ∧ simW n W (s.2 216) ∧ tab n W k s.2 ∧ ∀ z, z ≠ 216 → z ≠ 221 → z ≠ 228 → z ≠ 229 → s.2 z = N0 z) () _ 256 _ _ ⟨rfl, by show simW n W (N0 216); rw [N216]; exact simW.rf, fun t ht => absurd ht (Nat.not_lt_zero t), fun _ _ _ _ _ => rfl⟩ (fun k hk s hs' => ?_) (fun s hs' => ?_) (by decide)
  · obtain ⟨i, X⟩ := s
    obtain ⟨h1, h2, h3, h4⟩ := hs'
    dsimp only at h1 h2 h3 h4
    subst h1
    show ∃ s', f_X12_laysSleepers_7 (upS n W) (nI k) X = some (.inr s') ∧ _
    unfold f_X12_laysSleepers_7
    have e256 : decide ((256 : Int32) ≤ nI k) = false := by
      rw [show (256 : Int32) = nI 256 from rfl, i_le (by decide) (by omega)]
      exact decide_eq_false (by omega)
    rw [e256, cond_false, gd_t (i_in hk (by decide)), wr_e, i_ix (by omega), show vp_nar .boolean (0 : Int32) = 0 from rfl, i_1]
    show ∃ s', (bif wi (nI k) (upS n W) then _ else _) = some (Sum.inr s') ∧ _
    cases hwi : wi (nI k) (upS n W)
    · rw [cond_false]
      refine ⟨_, rfl, rfl, by show simW n W (mst X 228 k 0 216); rw [mst_no (show 216 ≠ 228 by decide)]; exact h2, fun t ht => ?_, fun z z1 z2 z3 z4 => (mst_no z3).trans (h4 z z1 z2 z3 z4)⟩
      show mst X 228 k 0 228 t = _ ∧ (_ → ∀ p, p < n → mst X 228 k 0 229 (8 * t + p) = _)
      rw [mst_no (show 229 ≠ 228 by decide)]
      by_cases htk : t = k
      · subst htk
        rw [mst_oo, hwi, Bool.false_and]
        exact ⟨rfl, fun z => by cases z⟩
      · rw [mst_nk htk]
        exact h3 t (by omega)
    · obtain ⟨N', a1, a2, a3, a4, a5, a6, a7⟩ := m_24 (N := mst X 228 k 0) hw (by rw [mst_no (by decide)]; exact h2) hk
      rw [cond_true, a1]
      refine ⟨_, rfl, rfl, ?_, fun t ht => ?_, fun z z1 z2 z3 z4 => (a7 z z1 z2 z3 z4).trans ((mst_no z3).trans (h4 z z1 z2 z3 z4))⟩
      · show simW n W (N' 216)
        rw [a2]
        exact simW.sl
      · show N' 228 t = _ ∧ (_ → ∀ p, p < n → N' 229 (8 * t + p) = _)
        by_cases htk : t = k
        · subst htk
          rw [a3, hwi, Bool.true_and]
          exact ⟨rfl, fun _ => a5⟩
        · obtain ⟨g1, g2⟩ := h3 t (by omega)
          refine ⟨by rw [a4 t htk, mst_nk htk]; exact g1, fun hz p hp => ?_⟩
          rw [a6 _ (by omega), mst_no (by decide)]
          exact g2 hz p hp
  · obtain ⟨i, X⟩ := s
    obtain ⟨h1, h2, h3, h4⟩ := hs'
    dsimp only at h1 h2 h3 h4
    subst h1
    show ∃ M', f_X12_laysSleepers_7 (upS n W) (nI 256) X = _ ∧ _
    unfold f_X12_laysSleepers_7
    rw [show decide ((256 : Int32) ≤ nI 256) = true from rfl, cond_true, m_back (W := W) (m_219 (by rw [h4 219 (by decide) (by decide) (by decide) (by decide), h219])) (fun j hj => h2.2 j (by omega)), b2_s]
    refine ⟨_, rfl, rs_at _ _ _, fun t ht => by rw [rs_ne (by decide), rs_ne (by decide)]; exact h3 t ht, fun z z1 z2 z3 z4 z5 => ?_⟩
    rw [rs_ne z1, h4 z z1 z3 z4 z5, ← hN0, rs_ne z2]
/-- who sleeps up there now -/
theorem sl_nat : ∃ a, a < 256 ∧ slS n W &&& upS n W = nI a := S8.nat (S8.andl (S8.set _))
theorem m_slUp {N : mM} (hn : N 216 0 = nI n) (h8 : n ≤ 8) : f_X12_sleepersUp N = some (slS n (N 216) &&& upS n (N 216)) := by
  unfold f_X12_sleepersUp
  rw [m_sls hn h8, b1_s, m_ups hn h8, b1_s]
theorem m_feels (hw : WF n W) {N : mM} (ht' : tab n W 256 N) {p t : Nat} (hp : p < n) (ht : t < 256) : f_X12_feelsSo (nI t) (nI p) (slS n W &&& upS n W) N = some (feB n W p t) := by
  have h8 := hw.2.1
  obtain ⟨a, ha, ea⟩ := sl_nat (n := n) (W := W)
  have hwa : wi (nI a) (upS n W) = true := (wi_iff (nIs ha)).mpr fun j hj z => by
    rw [← ea, hs_and, Bool.and_eq_true] at z
    exact z.2
  have la : N 229 (8 * a + p) = rCar n W (fun _ => 0) p := by
    rw [(ht' a ha).2 hwa p hp]
    unfold ldT
    rw [← ea, sW_id hw]
  obtain ⟨g1, g2⟩ := ht' t ht
  have e8 : ∀ x, (8 : Int32) * nI x + nI p = nI (8 * x + p) := fun x => by rw [show (8 : Int32) = nI 8 from rfl, pk_mul, nI_add]
  unfold f_X12_feelsSo feB
  rw [ea, gd_t (i_in ht (by decide)), i_ix (by omega), g1, e8, e8, mhas_hs (by omega)]
  have key : gd (mIn (nI (8 * t + p)) 2048) (gd (mIn (nI (8 * a + p)) 2048) (bif decide (¬ (N 229 (ix (nI (8 * t + p)))) = (N 229 (ix (nI (8 * a + p))))) then (some false) else (some true))) = some (decide (N 229 (8 * t + p) = rCar n W (fun _ => 0) p)) := by
    rw [gd_t (i_in (by omega) (by decide)), gd_t (i_in (by omega) (by decide)), i_ix (by omega), i_ix (by omega), la, dn]
    cases decide (N 229 (8 * t + p) = rCar n W (fun _ => 0) p) <;> rfl
  rw [key]
  cases c1 : wi (nI t) (upS n W)
  · rfl
  · cases c2 : nhB n W (nI t)
    · rfl
    · cases c3 : hs (nI t) p
      · rw [g2 c1 p hp]
        rfl
      · rfl
end
