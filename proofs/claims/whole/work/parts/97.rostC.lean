/-! rosters in the class -/
theorem an_255 {e : Nat} (he : e < 256) : nI e &&& (255 : Int32) = nI e := (by decide +kernel : ∀ e, e < 256 → nI e &&& (255 : Int32) = nI e) e he
theorem not_bit {t i : Nat} (ht : t < 256) (hi : i < 8) (h : t.testBit i = true) : nI t &&& (f_X11_bit (nI i) ^^^ (-1 : Int32)) = nI (t - 2 ^ i) := (by decide +kernel : ∀ t, t < 256 → ∀ i, i < 8 → t.testBit i = true → nI t &&& (f_X11_bit (nI i) ^^^ (-1 : Int32)) = nI (t - 2 ^ i)) t ht i hi h
theorem i_2r {k : Nat} (h : k < 256) : decide ((256 : Int32) ≤ nI k) = false := i_lit (a := 256) (by decide) h
theorem mul_256 (r : Nat) : nI r * (256 : Int32) = nI (r * 256) := pk_mul r 256
section
variable {n : Nat} {M : mM}
theorem C_sum {o : Nat} {N : mM} (ho : mA8B o = true) (h11 : o ≠ 11) : ∃ N', f_X5_sumUp o N = some ((), N') ∧ (∀ t, t < 256 → N' 11 t = sm (fun j => bif t.testBit j then N o j else 0) 8) ∧ ∀ z, z ≠ 11 → N' z = N z := by
  have inner : ∀ t, t < 256 → ∀ X : mM, X 11 t = 0 → X o = N o → ∃ X', f_X5_sumUp_l12 o (nI t) 0 X = some (.inr (nI (t + 1), X')) ∧ X' 11 t = sm (fun j => bif t.testBit j then N o j else 0) 8 ∧ (∀ z, z ≠ 11 → X' z = X z) ∧ ∀ k, k ≠ t → X' 11 k = X 11 k := fun t ht X hX0 hXo => by
    unfold f_X5_sumUp_l12
    obtain ⟨r, e1, X', e2, e3⟩ := wh_P (b := fun s : Int32 × mM => f_X5_sumUp_12 o (nI t) s.1 s.2) (fun k (s : Int32 × mM) => s.1 = nI k ∧ s.2 11 t = sm (fun j => bif t.testBit j then N o j else 0) k ∧ (∀ z, z ≠ 11 → s.2 z = X z) ∧ ∀ k, k ≠ t → s.2 11 k = X 11 k) (fun r => ∃ X', r = .inr (nI (t + 1), X') ∧ X' 11 t = sm (fun j => bif t.testBit j then N o j else 0) 8 ∧ (∀ z, z ≠ 11 → X' z = X z) ∧ ∀ k, k ≠ t → X' 11 k = X 11 k) 8 100000 ((0 : Int32), X) ⟨rfl, hX0, fun _ _ => rfl, fun _ _ => rfl⟩ (fun k hk s hs' => by
      obtain ⟨a, Y⟩ := s
      obtain ⟨h1, h2, h3, h4⟩ := hs'
      dsimp only at h1 h2 h3 h4
      subst h1
      show ∃ s', f_X5_sumUp_12 o (nI t) (nI k) Y = some (.inr s') ∧ _
      have wr1 : ∀ v : Int32, v = (bif t.testBit k then N o k else 0) → ∃ s' : Int32 × mM, f_X5_sumUp_29 o (nI t) (nI k) (nI t) (Y 11 (ix (nI t))) v Y = some (.inr s') ∧ s'.1 = nI (k + 1) ∧ s'.2 11 t = sm (fun j => bif t.testBit j then N o j else 0) (k + 1) ∧ (∀ z, z ≠ 11 → s'.2 z = X z) ∧ ∀ k, k ≠ t → s'.2 11 k = X 11 k := fun v hv => by
        unfold f_X5_sumUp_29
        rw [gd_t (i_in ht (by decide)), wr_e, i_ix (by omega), i_1]
        refine ⟨_, rfl, rfl, ?_, fun z hz => (mst_no hz).trans (h3 z hz), fun k' hk' => (mst_nk hk').trans (h4 k' hk')⟩
        show mst Y 11 t (Y 11 t + v) 11 t = _
        rw [mst_oo, h2, hv, sm_s]
      unfold f_X5_sumUp_12
      rw [bif_f (i_8 hk), gd_t (i_in ht (by decide)), has_hs (by omega), hs_nat (by omega) (by omega)]
      cases c : t.testBit k
      · rw [cond_false]
        exact wr1 0 (by rw [c]; rfl)
      · rw [cond_true, gd_t (i_in hk i_28)]
        exact wr1 _ (by rw [c, i_ix (by omega), h3 o h11, hXo]; rfl)) (fun s hs' => by
      obtain ⟨a, Y⟩ := s
      obtain ⟨h1, h2, h3, h4⟩ := hs'
      dsimp only at h1 h2 h3 h4
      subst h1
      show ∃ r, f_X5_sumUp_12 o (nI t) (nI 8) Y = some (.inl r) ∧ _
      unfold f_X5_sumUp_12
      rw [bif_t i_88, i_1]
      exact ⟨_, rfl, Y, rfl, h2, h3, h4⟩) (by decide)
    subst e2
    exact ⟨X', e1, e3⟩
  unfold f_X5_sumUp f_X5_sumUp_l2
  rw [gd_t ho]
  refine wh_V (fun k (s : Int32 × mM) => s.1 = nI k ∧ (∀ t, t < k → s.2 11 t = sm (fun j => bif t.testBit j then N o j else 0) 8) ∧ ∀ z, z ≠ 11 → s.2 z = N z) () _ 256 _ _ ⟨rfl, fun t ht => absurd ht (Nat.not_lt_zero t), fun _ _ => rfl⟩ (fun k hk s hs' => ?_) (fun s hs' => ?_) (by decide)
  · obtain ⟨a, Y⟩ := s
    obtain ⟨h1, h2, h3⟩ := hs'
    dsimp only at h1 h2 h3
    subst h1
    obtain ⟨X', g1, g2, g3, g4⟩ := inner k hk (mst Y 11 k 0) (mst_oo _ _ _ _) ((mst_no h11).trans (h3 o h11))
    show ∃ s', f_X5_sumUp_2 o (nI k) Y = some (.inr s') ∧ _
    unfold f_X5_sumUp_2
    rw [i_2r hk, cond_false, gd_t (i_in hk (by decide)), wr_e, i_ix (by omega), g1]
    refine ⟨_, rfl, rfl, fun t ht => ?_, fun z hz => ((g3 z hz).trans (mst_no hz)).trans (h3 z hz)⟩
    by_cases e : t = k
    · rw [e]; exact g2
    · show X' 11 t = _
      rw [g4 t e, mst_nk e]
      exact h2 t (by omega)
  · obtain ⟨a, Y⟩ := s
    obtain ⟨h1, h2, h3⟩ := hs'
    dsimp only at h1 h2 h3
    subst h1
    show ∃ M', f_X5_sumUp_2 o (nI 256) Y = some (.inl ((), M')) ∧ _
    unfold f_X5_sumUp_2
    rw [show decide ((256 : Int32) ≤ nI 256) = true from rfl, cond_true]
    exact ⟨_, rfl, h2, h3⟩
theorem C_few {X : mM} {r t : Nat} (hr : r ≤ 12) (ht : t < 256) : f_X5_fewestOf (nI r) (nI t) X = some (X 12 (r * 256 + t)) := by
  unfold f_X5_fewestOf
  rw [mul_256, nI_add, decide_eq_false (nI_pos (by omega)), cond_false, i_lit (by decide) (by omega), cond_false, gd_t (i_in (by omega) (by decide)), i_ix (by omega)]
/-- what lies in the rows of the plan -/
def PlT (X : mM) (e x : Nat) (fu : Nat → Nat) (h : Nat) : Prop := X 10 2 = nI e ∧ (∀ t, t < 256 → sbN t e = true → X 11 t = nI (fsN fu t)) ∧ ∀ r, r ≤ h → ∀ t, t < 256 → X 12 (r * 256 + t) = nI (rF e x fu r t)
theorem PlT.lt {X : mM} {e x h h' : Nat} {fu : Nat → Nat} (p : PlT X e x fu h) (hh : h' ≤ h) : PlT X e x fu h' := ⟨p.1, p.2.1, fun r hr => p.2.2 r (by omega)⟩
section
variable {e x : Nat} {fu : Nat → Nat}
theorem C_cost {X : mM} (he : e < 256) (hx : x ≤ 999) (hfs : ∀ t, t < 256 → fsN fu t < 2 ^ 30) {r s : Nat} (hr : r ≤ 11) (hs1 : s < 256) (h10 : X 10 2 = nI e) (h11 : ∀ t, t < 256 → sbN t e = true → X 11 t = nI (fsN fu t)) (h12 : ∀ t, t < 256 → X 12 (r * 256 + t) = nI (rF e x fu r t)) : f_X5_costOf (nI s) (nI (r + 1)) (nI x) X = some (nI (rC e x fu r s)) := by
  unfold f_X5_costOf rC
  rw [h10, within_iff]
  change (bif wi (nI s) (nI e) then _ else _) = _
  rw [sb_wi hs1 he, decide_eq_false (nI_pos (by omega)), cond_false, i_2r hs1, cond_false, gd_t (i_in hs1 (by decide)), i_ix (by omega)]
  cases c : sbN s e
  · rw [cond_false, Bool.false_and, if_neg (by decide)]
    rfl
  · have := hfs s hs1
    rw [cond_true, Bool.true_and, h11 s hs1 c, i_le (by omega) (by omega)]
    cases c2 : decide (x ≤ fsN fu s)
    · rw [cond_false, if_neg (by decide)]
      rfl
    · rw [cond_true, if_pos rfl, nI_pred, i_df he c, C_few (by omega) (by omega), b1_s, h12 _ (by omega)]
      rw [show f_J6_bitCount_0f7a4 (nI s) = nI (cn s) from bc_cn hs1, nI_add]
/-- one more hour -/
theorem C_fill {X : mM} (he : e < 256) (hx : x ≤ 999) (hfs : ∀ t, t < 256 → fsN fu t < 2 ^ 30) {r : Nat} (hr : r ≤ 11) (hP : PlT X e x fu r) : ∃ X', f_X5_fillHour (nI (r + 1)) (nI x) X = some ((), X') ∧ PlT X' e x fu (r + 1) ∧ ∀ z, z ≠ 12 → X' z = X z := by
  obtain ⟨h10, h11, h12⟩ := hP
  have b0 : ∀ t, t < 256 → rF e x fu (r + 1) t < 2 ^ 30 := fun t ht => by have := rF_le (x := x) (fu := fu) (r + 1) t ht he; omega
  have bs : ∀ i t, i ≤ 8 → t < 256 → smK (rC e x fu r) i t < 2 ^ 30 := fun i t hi ht => by
    obtain ⟨s, -, -, -, d⟩ := (smK_p (rC e x fu r) i hi t ht).2
    rw [d]
    have := rC_le (x := x) (fu := fu) (r := r) (s := s) he
    omega
  have key : ∀ {t : Nat}, t < 256 → (r + 1) * 256 + t < 3328 := fun ht => by omega
  -- the second pass, of one person
  have p2 : ∀ i, i < 8 → ∀ Y : mM, (∀ t, t < 256 → Y 12 ((r + 1) * 256 + t) = nI (smK (rC e x fu r) i t)) → ∃ Y', f_X5_fillHour_l27 (nI (r + 1)) (nI i) 0 Y = some (.inr (nI (i + 1), Y')) ∧ (∀ t, t < 256 → Y' 12 ((r + 1) * 256 + t) = nI (smK (rC e x fu r) (i + 1) t)) ∧ (∀ z, z ≠ 12 → Y' z = Y z) ∧ ∀ j, j < (r + 1) * 256 → Y' 12 j = Y 12 j := fun i hi Y hY => by
    unfold f_X5_fillHour_l27
    obtain ⟨q, e1, Y', e2, e3⟩ := wh_P (b := fun s : Int32 × mM => f_X5_fillHour_27 (nI (r + 1)) (nI i) s.1 s.2) (fun k (s : Int32 × mM) => s.1 = nI k ∧ (∀ t, t < 256 → s.2 12 ((r + 1) * 256 + t) = nI (if t < k then smK (rC e x fu r) (i + 1) t else smK (rC e x fu r) i t)) ∧ (∀ z, z ≠ 12 → s.2 z = Y z) ∧ ∀ j, j < (r + 1) * 256 → s.2 12 j = Y 12 j) (fun q => ∃ Y', q = .inr (nI (i + 1), Y') ∧ (∀ t, t < 256 → Y' 12 ((r + 1) * 256 + t) = nI (smK (rC e x fu r) (i + 1) t)) ∧ (∀ z, z ≠ 12 → Y' z = Y z) ∧ ∀ j, j < (r + 1) * 256 → Y' 12 j = Y 12 j) 256 100000 ((0 : Int32), Y) ⟨rfl, fun t ht => by rw [if_neg (Nat.not_lt_zero t)]; exact hY t ht, fun _ _ => rfl, fun _ _ => rfl⟩ (fun k hk s hs' => by
      obtain ⟨a, Z⟩ := s
      obtain ⟨g1, g2, g3, g4⟩ := hs'
      dsimp only at g1 g2 g3 g4
      subst g1
      show ∃ s', f_X5_fillHour_27 (nI (r + 1)) (nI i) (nI k) Z = some (.inr s') ∧ _
      unfold f_X5_fillHour_27
      rw [i_2r hk, cond_false, has_hs (by omega), hs_nat (by omega) (by omega), mul_256, nI_add, gd_t (i_in (key hk) (by decide)), i_ix (by omega), i_1]
      cases c : k.testBit i
      · rw [cond_false]
        refine ⟨_, rfl, rfl, fun t ht => ?_, g3, g4⟩
        show Z 12 ((r + 1) * 256 + t) = _
        rw [g2 t ht]
        by_cases h1 : t < k
        · rw [if_pos h1, if_pos (by omega)]
        · rw [if_neg h1]
          by_cases h2 : t = k
          · rw [h2, if_pos (by omega), smK_s, c, if_neg (by decide)]
          · rw [if_neg (by omega)]
      · have hu := sub_i hk hi c
        have hp : 0 < 2 ^ i := Nat.two_pow_pos i
        have hge : 2 ^ i ≤ k := Nat.ge_two_pow_of_testBit c
        have e5 : smK (rC e x fu r) (i + 1) (k - 2 ^ i) = smK (rC e x fu r) i (k - 2 ^ i) := by
          rw [smK_s, hu.2 i hi, c, decide_eq_true rfl]
          exact if_neg (by decide)
        have v1 : Z 12 ((r + 1) * 256 + k) = nI (smK (rC e x fu r) i k) := by rw [g2 k hk, if_neg (Nat.lt_irrefl k)]
        have v2 : Z 12 ((r + 1) * 256 + (k - 2 ^ i)) = nI (smK (rC e x fu r) i (k - 2 ^ i)) := by rw [g2 _ hu.1, if_pos (by omega), e5]
        rw [cond_true, not_bit hk hi c, C_few (by omega) hu.1, b1_s, gd_t (i_in (key hk) (by decide)), wr_e, v1, v2, mMin_n (Nat.lt_trans (bs i k (by omega) hk) (by decide)) (Nat.lt_trans (bs i _ (by omega) hu.1) (by decide))]
        refine ⟨_, rfl, rfl, fun t ht => ?_, fun z hz => (mst_no hz).trans (g3 z hz), fun j hj => (mst_nk (by omega)).trans (g4 j hj)⟩
        show mst Z 12 ((r + 1) * 256 + k) _ 12 ((r + 1) * 256 + t) = _
        by_cases h2 : t = k
        · rw [h2, mst_oo, if_pos (by omega), smK_s, c, if_pos rfl]
        · rw [mst_nk (by omega), g2 t ht]
          by_cases h1 : t < k
          · rw [if_pos h1, if_pos (by omega)]
          · rw [if_neg h1, if_neg (by omega)]) (fun s hs' => by
      obtain ⟨a, Z⟩ := s
      obtain ⟨g1, g2, g3, g4⟩ := hs'
      dsimp only at g1 g2 g3 g4
      subst g1
      show ∃ q, f_X5_fillHour_27 (nI (r + 1)) (nI i) (nI 256) Z = some (.inl q) ∧ _
      unfold f_X5_fillHour_27
      rw [show decide ((256 : Int32) ≤ nI 256) = true from rfl, cond_true, i_1]
      exact ⟨_, rfl, Z, rfl, fun t ht => by rw [g2 t ht, if_pos ht], g3, g4⟩) (by decide)
    subst e2
    exact ⟨Y', e1, e3⟩
  -- the second pass
  have pp : ∀ Y : mM, (∀ t, t < 256 → Y 12 ((r + 1) * 256 + t) = nI (rC e x fu r t)) → ∃ Y', f_X5_fillHour_l22 (nI (r + 1)) 0 Y = some ((), Y') ∧ (∀ t, t < 256 → Y' 12 ((r + 1) * 256 + t) = nI (smK (rC e x fu r) 8 t)) ∧ (∀ z, z ≠ 12 → Y' z = Y z) ∧ ∀ j, j < (r + 1) * 256 → Y' 12 j = Y 12 j := fun Y hY => by
    unfold f_X5_fillHour_l22
    refine wh_V (fun i (s : Int32 × mM) => s.1 = nI i ∧ (∀ t, t < 256 → s.2 12 ((r + 1) * 256 + t) = nI (smK (rC e x fu r) i t)) ∧ (∀ z, z ≠ 12 → s.2 z = Y z) ∧ ∀ j, j < (r + 1) * 256 → s.2 12 j = Y 12 j) () _ 8 _ _ ⟨rfl, hY, fun _ _ => rfl, fun _ _ => rfl⟩ (fun i hi s hs' => ?_) (fun s hs' => ?_) (by decide)
    · obtain ⟨a, Z⟩ := s
      obtain ⟨g1, g2, g3, g4⟩ := hs'
      dsimp only at g1 g2 g3 g4
      subst g1
      obtain ⟨Z', k1, k2, k3, k4⟩ := p2 i hi Z g2
      show ∃ s', f_X5_fillHour_22 (nI (r + 1)) (nI i) Z = some (.inr s') ∧ _
      unfold f_X5_fillHour_22
      rw [bif_f (i_8 hi), k1]
      exact ⟨_, rfl, rfl, k2, fun z hz => (k3 z hz).trans (g3 z hz), fun j hj => (k4 j hj).trans (g4 j hj)⟩
    · obtain ⟨a, Z⟩ := s
      obtain ⟨g1, g2, g3, g4⟩ := hs'
      dsimp only at g1 g2 g3 g4
      subst g1
      show ∃ M', f_X5_fillHour_22 (nI (r + 1)) (nI 8) Z = some (.inl ((), M')) ∧ _
      unfold f_X5_fillHour_22
      rw [bif_t i_88]
      exact ⟨_, rfl, g2, g3, g4⟩
  unfold f_X5_fillHour f_X5_fillHour_l2
  refine wh_V (fun k (s : Int32 × mM) => s.1 = nI k ∧ (∀ t, t < k → s.2 12 ((r + 1) * 256 + t) = nI (rC e x fu r t)) ∧ (∀ z, z ≠ 12 → s.2 z = X z) ∧ ∀ j, j < (r + 1) * 256 → s.2 12 j = X 12 j) () _ 256 _ _ ⟨rfl, fun t ht => absurd ht (Nat.not_lt_zero t), fun _ _ => rfl, fun _ _ => rfl⟩ (fun k hk s hs' => ?_) (fun s hs' => ?_) (by decide)
  · obtain ⟨a, Z⟩ := s
    obtain ⟨g1, g2, g3, g4⟩ := hs'
    dsimp only at g1 g2 g3 g4
    subst g1
    show ∃ s', f_X5_fillHour_2 (nI (r + 1)) (nI x) (nI k) Z = some (.inr s') ∧ _
    unfold f_X5_fillHour_2
    rw [i_2r hk, cond_false, C_cost he hx hfs hr hk (by rw [g3 10 (by decide)]; exact h10) (fun t h1 h2 => by rw [g3 11 (by decide)]; exact h11 t h1 h2) (fun t ht => by rw [g4 _ (by omega)]; exact h12 r (Nat.le_refl r) t ht), b1_s, mul_256, nI_add, gd_t (i_in (key hk) (by decide)), wr_e, i_ix (by omega), i_1]
    refine ⟨_, rfl, rfl, fun t ht => ?_, fun z hz => (mst_no hz).trans (g3 z hz), fun j hj => (mst_nk (by omega)).trans (g4 j hj)⟩
    show mst Z 12 ((r + 1) * 256 + k) _ 12 ((r + 1) * 256 + t) = _
    by_cases h2 : t = k
    · rw [h2, mst_oo]
    · rw [mst_nk (by omega)]
      exact g2 t (by omega)
  · obtain ⟨a, Z⟩ := s
    obtain ⟨g1, g2, g3, g4⟩ := hs'
    dsimp only at g1 g2 g3 g4
    subst g1
    obtain ⟨Z', k1, k2, k3, k4⟩ := pp Z g2
    show ∃ M', f_X5_fillHour_2 (nI (r + 1)) (nI x) (nI 256) Z = some (.inl ((), M')) ∧ _
    unfold f_X5_fillHour_2
    rw [show decide ((256 : Int32) ≤ nI 256) = true from rfl, cond_true, k1, b1_s]
    refine ⟨Z', rfl, ⟨?_, fun t h1 h2 => ?_, fun q hq t ht => ?_⟩, fun z hz => (k3 z hz).trans (g3 z hz)⟩
    · rw [k3 10 (by decide), g3 10 (by decide)]; exact h10
    · rw [k3 11 (by decide), g3 11 (by decide)]; exact h11 t h1 h2
    · by_cases hqr : q = r + 1
      · rw [hqr, k2 t ht, rF_s]
      · rw [k4 _ (by omega), g4 _ (by omega)]
        exact h12 q (by omega) t ht
/-- all the hours -/
theorem C_places {o : Nat} {N : mM} (he : e < 256) (hx : x ≤ 999) (ho : mA8B o = true) (hoz : o ≠ 10 ∧ o ≠ 11) (hfu : ∀ j, j < 8 → e.testBit j = true → N o j = nI (fu j)) (hfb : ∀ j, fu j ≤ 999) (h0 : ∀ t, t < 256 → N 12 t = 0) {h : Nat} (hh : h ≤ 12) : ∃ N', f_X5_places o (nI e) (nI h) (nI x) N = some (bif decide (rF e x fu h e < 10000) then nI (rF e x fu h e) else -1, N') ∧ PlT N' e x fu h ∧ (∀ z, z ≠ 10 → z ≠ 11 → z ≠ 12 → N' z = N z) ∧ ∀ t, t < 256 → N' 12 t = 0 := by
  have hfs : ∀ t, t < 256 → fsN fu t < 2 ^ 30 := fun t _ => by
    have : fsN fu t ≤ 7992 := by
      unfold fsN
      refine Nat.le_trans (sN_le (g := fun _ => 999) fun j _ => ?_) (Nat.le_of_eq rfl)
      by_cases c : t.testBit j = true
      · rw [if_pos c]; exact hfb j
      · rw [if_neg c]; exact Nat.zero_le _
    omega
  obtain ⟨X1, a1, a2, a3⟩ := C_sum (o := o) (N := mst N 10 2 (nI e)) ho hoz.2
  have sums : ∀ t, t < 256 → sbN t e = true → X1 11 t = nI (fsN fu t) := fun t ht hte => by
    rw [a2 t ht]
    have hb := (sb_iff ht he).mp hte
    have key : ∀ k, k ≤ 8 → sm (fun j => bif t.testBit j then mst N 10 2 (nI e) o j else 0) k = nI (sN (fun j => if t.testBit j then fu j else 0) k) := by
      intro k
      induction k with
      | zero => intro _; rfl
      | succ k ih =>
        intro hk
        rw [sm_s, sN_s, ih (by omega), ← nI_add]
        cases c : t.testBit k
        · rw [cond_false, if_neg (by decide)]; rfl
        · rw [cond_true, if_pos rfl, mst_no hoz.1, hfu k (by omega) (hb k (by omega) c)]
    exact key 8 (Nat.le_refl 8)
  have P0 : PlT X1 e x fu 0 := ⟨by rw [a3 10 (by decide), mst_oo], sums, fun r hr t ht => by
    rw [show r = 0 by omega, Nat.zero_mul, Nat.zero_add, a3 12 (by decide), mst_no (by decide), h0 t ht]
    rfl⟩
  unfold f_X5_places f_X5_places_l10
  rw [gd_t ho, wr_e, an_255 he, a1, b2_s]
  have fin : ∀ Z : mM, PlT Z e x fu h → f_X5_places_22 o (nI h) Z = some (bif decide (rF e x fu h e < 10000) then nI (rF e x fu h e) else -1, Z) := fun Z hZ => by
    have hb := rF_le (x := x) (fu := fu) h e he he
    unfold f_X5_places_22
    rw [hZ.1, C_few hh he, b1_s, hZ.2.2 h (Nat.le_refl h) e he, show decide ((10000 : Int32) ≤ nI (rF e x fu h e)) = decide (10000 ≤ rF e x fu h e) from i_le (a := 10000) (by decide) (by omega)]
    by_cases c : rF e x fu h e < 10000
    · rw [decide_eq_true c, decide_eq_false (by omega)]; rfl
    · rw [decide_eq_false c, decide_eq_true (by omega)]; rfl
  refine wh_V (fun k (s : Int32 × mM) => s.1 = nI (k + 1) ∧ PlT s.2 e x fu k ∧ (∀ z, z ≠ 10 → z ≠ 11 → z ≠ 12 → s.2 z = N z)) _ _ h _ _ ⟨rfl, P0, fun z z1 z2 z3 => (a3 z z2).trans (mst_no z1)⟩ (fun k hk s hs' => ?_) (fun s hs' => ?_) (by omega)
  · obtain ⟨a, Z⟩ := s
    obtain ⟨g1, g2, g3⟩ := hs'
    dsimp only at g1 g2 g3
    subst g1
    obtain ⟨Z', k1, k2, k3⟩ := C_fill (r := k) he hx hfs (by omega) g2
    show ∃ s', f_X5_places_10 o (nI h) (nI x) (nI (k + 1)) Z = some (.inr s') ∧ _
    unfold f_X5_places_10
    rw [show decide ((12 : Int32) < nI (k + 1)) = false from (i_lt (a := 12) (by decide) (by omega)).trans (decide_eq_false (by omega)), cond_false, i_lt (by omega) (by omega), decide_eq_false (by omega), cond_false, k1, b2_s, i_1]
    exact ⟨_, rfl, rfl, k2, fun z z1 z2 z3 => (k3 z z3).trans (g3 z z1 z2 z3)⟩
  · obtain ⟨a, Z⟩ := s
    obtain ⟨g1, g2, g3⟩ := hs'
    dsimp only at g1 g2 g3
    subst g1
    show ∃ M', f_X5_places_10 o (nI h) (nI x) (nI (h + 1)) Z = _ ∧ _
    refine ⟨Z, ?_, g2, g3, fun t ht => ?_⟩
    · unfold f_X5_places_10
      rw [fin Z g2, b1_s, i_lt (by omega) (by omega), decide_eq_true (show h < h + 1 by omega), cond_true]
      cases decide ((12 : Int32) < nI (h + 1)) <;> rfl
    · have := g2.2.2 0 (Nat.zero_le h) t ht
      rw [Nat.zero_mul, Nat.zero_add] at this
      exact this
/-- the least set -/
theorem C_least {X : mM} (he : e < 256) (hx : x ≤ 999) (hfs : ∀ t, t < 256 → fsN fu t < 2 ^ 30) {k t : Nat} (hk : k ≤ 11) (ht : t < 256) (hP : PlT X e x fu (k + 1)) : f_X5_leastSet (nI t) (nI (k + 1)) (nI x) X = some (nI (fsK (pcK e x fu k t) 256)) := by
  obtain ⟨g1, g2, g3⟩ := fsK_p (pc_p (e := e) (x := x) (fu := fu) (k := k) ht)
  have hc : ∀ s, s < 256 → f_X5_costOf (nI s) (nI (k + 1)) (nI x) X = some (nI (rC e x fu k s)) := fun s hs1 => C_cost he hx hfs hk hs1 hP.1 hP.2.1 (hP.2.2 k (by omega))
  have b1 := rF_le (x := x) (fu := fu) (k + 1) t ht he
  have b2 : ∀ s, rC e x fu k s ≤ 10000 + 8 * (k + 1) := fun s => rC_le he
  unfold f_X5_leastSet f_X5_leastSet_l7
  rw [C_few (by omega) ht, hP.2.2 (k + 1) (Nat.le_refl _) t ht, b1_s]
  generalize fsK (pcK e x fu k t) 256 = f at g1 g2 g3 ⊢
  refine wh_ne (fun s => nI s) f _ (by omega) rfl (fun s hs1 => ?_) ?_
  · have hp := g3 s hs1
    have := b2 s
    show f_X5_leastSet_7 (nI t) (nI (k + 1)) (nI x) _ (nI s) X = _
    unfold f_X5_leastSet_7
    rw [i_2r (by omega), cond_false, within_iff]
    change (bif wi (nI s) (nI t) then _ else _) = _
    rw [sb_wi (by omega) ht, hc s (by omega), b1_s, dn, i_eq (by omega) (by omega), i_1]
    unfold pcK at hp
    cases c : sbN s t
    · rw [cond_false]
    · rw [c, Bool.true_and] at hp
      rw [cond_true, hp, Bool.not_false, cond_true]
  · have := b2 f
    show f_X5_leastSet_7 (nI t) (nI (k + 1)) (nI x) _ (nI f) X = _
    unfold f_X5_leastSet_7
    rw [i_2r (by omega), cond_false, within_iff]
    change (bif wi (nI f) (nI t) then _ else _) = _
    unfold pcK at g1
    rw [Bool.and_eq_true] at g1
    rw [sb_wi (by omega) ht, hc f (by omega), b1_s, dn, i_eq (by omega) (by omega), g1.1, cond_true, g1.2, Bool.not_true, cond_false]
/-- the set of the k-th hour -/
theorem C_setOf {X : mM} (he : e < 256) (hx : x ≤ 999) (hfs : ∀ t, t < 256 → fsN fu t < 2 ^ 30) {h k : Nat} (hh : h ≤ 12) (hk : k < h) (hP : PlT X e x fu h) (hf : rF e x fu h e < 10000) : f_X5_setOf (nI k) (nI h) (nI x) X = some (nI (wqK e x fu h (k + 1))) := by
  have wp := wq_p (N := 256) he (Nat.le_refl _) hf (by omega)
  unfold f_X5_setOf f_X5_setOf_l7
  rw [hP.1]
  refine wh_ne (fun j => (nI (e - wqK e x fu h j), (match j with | 0 => (-1 : Int32) | j + 1 => nI (wqK e x fu h (j + 1))), nI j)) (k + 1) _ (by omega) rfl (fun j hj => ?_) ?_
  · obtain ⟨a, b, c⟩ := wp j (by omega)
    obtain ⟨c1, c2, c3, c4⟩ := c (by omega)
    obtain ⟨d, -, -⟩ := wp (j + 1) (by omega)
    show f_X5_setOf_7 (nI k) (nI h) (nI x) (nI (e - wqK e x fu h j)) _ (nI j) X = some (.inr (nI (e - wqK e x fu h (j + 1)), nI (wqK e x fu h (j + 1)), nI (j + 1)))
    unfold f_X5_setOf_7
    rw [i_lt (by omega) (by omega), decide_eq_false (by omega), cond_false, i_le (by omega) (by omega), decide_eq_false (by omega), cond_false, pk_sub (by omega), show h - j = h - j - 1 + 1 by omega, C_least (k := h - j - 1) he hx hfs (by omega) (by omega) (hP.lt (by omega)), b1_s, hP.1, ← wq_s, i_df he d, i_1]
  · show f_X5_setOf_7 (nI k) (nI h) (nI x) _ (nI (wqK e x fu h (k + 1))) (nI (k + 1)) X = _
    unfold f_X5_setOf_7
    rw [i_lt (by omega) (by omega), decide_eq_true (by omega), cond_true]
end
end
