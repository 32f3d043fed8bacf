/-! rosters in the reference -/
theorem i_mul (r : Nat) : (256 : Int32) * nI r = nI (256 * r) := pk_mul 256 r
section
variable {n : Nat} {M : mM} {e x : Nat} {fu : Nat → Nat}
theorem ev_nat {n : Nat} (h : n ≤ 8) : evS n = nI (2 ^ n - 1) := (by decide +kernel : ∀ n, n ≤ 8 → evS n = nI (2 ^ n - 1)) n h
theorem p256 {n : Nat} (h : n ≤ 8) : 2 ^ n ≤ 256 := (by decide : ∀ n, n ≤ 8 → 2 ^ n ≤ 256) n h
theorem nI_and {a b : Nat} (ha : a < 2 ^ 31) (hb : b < 2 ^ 31) : nI a &&& nI b = nI (a &&& b) := hs_ext fun j hj => by
  rw [hs_and, hs_nat ha hj, hs_nat hb hj, hs_nat (Nat.lt_of_le_of_lt Nat.and_le_left ha) hj, Nat.testBit_and]
theorem and_0 {a b : Nat} (ha : a < 256) (hb : b < 256) : decide (nI a &&& nI b = 0) = decide (a &&& b = 0) := by
  rw [nI_and (by omega) (by omega), show (0 : Int32) = nI 0 from rfl, i_eq (Nat.lt_of_le_of_lt Nat.and_le_left (by omega)) (by decide)]
/-- the fulls of a set -/
theorem m_fullOf {X : mM} (hn : X 216 0 = nI n) (h8 : n ≤ 8) (hfu : ∀ j, j < n → pv (X 216) j 1 = nI (fu j)) {t : Nat} (ht : t < 2 ^ n) : f_X12_fullOf (nI t) X = some (nI (fsN fu t)) := by
  have h256 := p256 h8
  have e8 : fsN fu t = sN (fun j => if t.testBit j then fu j else 0) n := by
    unfold fsN
    obtain ⟨y, hy⟩ : ∃ y, 8 = n + y := ⟨8 - n, by omega⟩
    have key : ∀ y, sN (fun j => if t.testBit j then fu j else 0) (n + y) = sN (fun j => if t.testBit j then fu j else 0) n := by
      intro y
      induction y with
      | zero => rfl
      | succ y ih =>
        rw [← Nat.add_assoc, sN_s, ih, Nat.testBit_lt_two_pow (Nat.lt_of_lt_of_le ht (Nat.pow_le_pow_right (by decide) (Nat.le_add_right n y))), if_neg (by decide), Nat.add_zero]
    have := key y
    rw [← hy] at this
    exact this
  rw [e8]
  unfold f_X12_fullOf f_X12_fullOf_l4
  refine wh_ne (fun k => (nI (sN (fun j => if t.testBit j then fu j else 0) k), nI k)) n _ (by omega) rfl (fun k hk => ?_) ?_
  · show f_X12_fullOf_4 (nI t) (nI (sN (fun j => if t.testBit j then fu j else 0) k)) (nI k) X = some (.inr (nI (sN (fun j => if t.testBit j then fu j else 0) (k + 1)), nI (k + 1)))
    rw [sN_s]
    generalize sN (fun j => if t.testBit j then fu j else 0) k = z
    unfold f_X12_fullOf_4
    rw [m_ppl hn, b1_s, bif_f (i_len hk h8), mhas_hs (by omega), hs_nat (by omega) (by omega), i_1]
    cases c : t.testBit k
    · rw [cond_false, if_neg (by decide), show (0 : Int32) = nI 0 from rfl, nI_add]
    · rw [cond_true, if_pos rfl, show (1 : Int32) = nI 1 from rfl, m_of (by omega) (by decide), b1_s, hfu k hk, nI_add]
  · show f_X12_fullOf_4 (nI t) _ (nI n) X = _
    unfold f_X12_fullOf_4
    rw [m_ppl hn, b1_s, bif_t (i_lee n)]
theorem i_gt {a b : Nat} (ha : a < 2 ^ 31) (hb : b < 2 ^ 31) : decide (nI a < nI b) = decide (a < b) := i_lt ha hb
/-- one place of the table -/
theorem m_place {X : mM} (hn : X 216 0 = nI n) (h8 : n ≤ 8) {hs1 k s : Nat} (hk : k < hs1) (hh : hs1 ≤ 12) (hs2 : s < 2 ^ n) (he : e < 2 ^ n) {b : Bool} (hb : b = (sbN s e && decide (x ≤ fsN fu s))) (hT : k ≠ 0 → ∀ t, t < 2 ^ n → X 230 (256 * (hs1 - k) + t) = nI (rR e x fu (2 ^ n) k t)) {l2 l3 : Int32} : f_X12_laysPlaces_24 (nI hs1) l2 l3 (nI (hs1 - 1 - k)) (nI s) b X = some (.inr (nI (s + 1), mst X 230 (256 * (hs1 - 1 - k) + s) (nI (rR e x fu (2 ^ n) (k + 1) s)))) := by
  have h256 := p256 h8
  have hcn := cn_le s
  have hev : f_X12_everybody X = some (nI (2 ^ n - 1)) := by rw [M_every hn h8, ev_nat h8]
  have e1 : nI hs1 - (1 : Int32) = nI (hs1 - 1) := by
    obtain ⟨y, rfl⟩ : ∃ y, hs1 = y + 1 := ⟨hs1 - 1, by omega⟩
    exact nI_pred y
  -- what is written
  have wr1 : ∀ (v : Nat), v ≤ 1000000 → min 1000000 (v + cn s) = rR e x fu (2 ^ n) (k + 1) s → b = true → f_X12_laysPlaces_66 (nI hs1) l2 l3 (nI (hs1 - 1 - k)) (nI s) (mB b) (nI v) X = some (.inr (nI (s + 1), mst X 230 (256 * (hs1 - 1 - k) + s) (nI (rR e x fu (2 ^ n) (k + 1) s)))) := fun v hv hr hbt => by
    unfold f_X12_laysPlaces_66 f_X12_laysPlaces_83
    rw [hbt, show decide (mB true = 0) = false from rfl, cond_false, i_mul, nI_add, gd_t (i_in (by omega) (by decide)), wr_e, i_ix (by omega), show f_J6_bitCount_0f7a4 (nI s) = nI (cn s) from bc_cn (by omega), nI_add, show (1000000 : Int32) = nI 1000000 from rfl, mMin_n (by decide) (by omega), hr, i_1]
  have wr0 : b = false → ∀ v, f_X12_laysPlaces_66 (nI hs1) l2 l3 (nI (hs1 - 1 - k)) (nI s) (mB b) v X = some (.inr (nI (s + 1), mst X 230 (256 * (hs1 - 1 - k) + s) (nI (rR e x fu (2 ^ n) (k + 1) s)))) := fun hbf v => by
    have hr : rR e x fu (2 ^ n) (k + 1) s = 1000000 := by rw [rR_s, ← hb, hbf, if_neg (by decide)]
    unfold f_X12_laysPlaces_66 f_X12_laysPlaces_83
    rw [hbf, show decide (mB false = 0) = true from rfl, cond_true, i_mul, nI_add, gd_t (i_in (by omega) (by decide)), wr_e, i_ix (by omega), hr, i_1]
    rfl
  have once : ∀ v r, f_X12_laysPlaces_66 (nI hs1) l2 l3 (nI (hs1 - 1 - k)) (nI s) (mB b) v X = some r → (b = false ∨ k = 0) → f_X12_laysPlaces_l36 (nI hs1) l2 l3 (nI (hs1 - 1 - k)) (nI s) (mB b) v 0 X = some r := fun v r hr hc => by
    unfold f_X12_laysPlaces_l36
    refine wh_1 ?_
    show f_X12_laysPlaces_36 _ _ _ _ _ _ v 0 X = _
    unfold f_X12_laysPlaces_36
    rw [hev, b1_s, hr, b1_s, mB_0, e1]
    rcases hc with hc | hc
    · rw [hc]
      cases decide (nI (2 ^ n - 1) < (0 : Int32)) <;> rfl
    · rw [hc, Nat.sub_zero, i_lee]
      cases decide (nI (2 ^ n - 1) < (0 : Int32)) <;> cases b <;> rfl
  unfold f_X12_laysPlaces_24
  rw [e1, dn, i_eq (by omega) (by omega)]
  by_cases hk0 : k = 0
  · rw [decide_eq_true (show hs1 - 1 - k = hs1 - 1 by omega), Bool.not_true, cond_false]
    refine once _ _ ?_ (Or.inr hk0)
    cases c : b
    · rw [← c]
      exact wr0 c _
    · rw [← c]
      refine wr1 0 (by decide) ?_ c
      rw [rR_s, ← hb, c, if_pos rfl, if_pos hk0]
  · rw [decide_eq_false (show ¬ hs1 - 1 - k = hs1 - 1 by omega), Bool.not_false, cond_true]
    cases c : b
    · rw [← c]
      exact once _ _ (wr0 c _) (Or.inl c)
    · rw [← c]
      have hmn : min 1000000 (mnK (fun s' => decide (s' &&& s = 0)) (rR e x fu (2 ^ n) k) (2 ^ n) + cn s) = rR e x fu (2 ^ n) (k + 1) s := by
        rw [rR_s, ← hb, c, if_pos rfl, if_neg hk0]
      have hF := wr1 _ (mn_F (c := fun s' => decide (s' &&& s = 0)) (R := rR e x fu (2 ^ n) k) (2 ^ n)) hmn c
      unfold f_X12_laysPlaces_l36
      refine wh_ne (fun t => (nI (mnK (fun s' => decide (s' &&& s = 0)) (rR e x fu (2 ^ n) k) t), nI t)) (2 ^ n) _ (by omega) rfl (fun t ht => ?_) ?_
      · have b1 := mn_F (c := fun s' => decide (s' &&& s = 0)) (R := rR e x fu (2 ^ n) k) t
        have b2 := rR_le (e := e) (x := x) (fu := fu) (N := 2 ^ n) (k := k) (s := t)
        show f_X12_laysPlaces_36 _ _ _ _ _ _ (nI (mnK (fun s' => decide (s' &&& s = 0)) (rR e x fu (2 ^ n) k) t)) (nI t) X = some (.inr (nI (mnK (fun s' => decide (s' &&& s = 0)) (rR e x fu (2 ^ n) k) (t + 1)), nI (t + 1)))
        rw [mnK_s]
        generalize mnK (fun s' => decide (s' &&& s = 0)) (rR e x fu (2 ^ n) k) t = z at b1 ⊢
        unfold f_X12_laysPlaces_36
        rw [hev, b1_s, i_lt (by omega) (by omega), decide_eq_false (by omega), cond_false, c, show decide (mB true = 0) = false from rfl, cond_false, e1, i_le (by omega) (by omega), decide_eq_false (by omega), cond_false, dn, and_0 (by omega) (by omega), i_1, i_1]
        cases c2 : decide (t &&& s = 0)
        · rw [Bool.not_false, cond_true, if_neg (by decide)]
        · rw [Bool.not_true, cond_false, if_pos rfl, i_mul, nI_add, gd_t (i_in (by omega) (by decide)), i_ix (by omega), show hs1 - 1 - k + 1 = hs1 - k by omega, hT hk0 t ht, mMin_n (by omega) (by omega)]
      · show f_X12_laysPlaces_36 _ _ _ _ _ _ _ (nI (2 ^ n)) X = _
        unfold f_X12_laysPlaces_36
        rw [hev, b1_s, i_lt (by omega) (by omega), decide_eq_true (by have := Nat.two_pow_pos n; omega), cond_true, hF, b1_s]
/-- the whole table -/
theorem m_laysP {X : mM} (hn : X 216 0 = nI n) (h8 : n ≤ 8) (hx : x ≤ 999) (hfu : ∀ j, j < n → pv (X 216) j 1 = nI (fu j)) (hfs : ∀ t, fsN fu t < 2 ^ 30) {h : Nat} (h0 : 0 < h) (hh : h ≤ 12) (he : e < 2 ^ n) {but : Int32} (hbut : ∀ s, s < 2 ^ n → decide (nI s &&& but = 0) = sbN s e) : ∃ X', f_X12_laysPlaces (nI h) (nI x) but X = some ((), X') ∧ (∀ z, z ≠ 230 → X' z = X z) ∧ ∀ k, k < h → ∀ s, s < 2 ^ n → X' 230 (256 * (h - 1 - k) + s) = nI (rR e x fu (2 ^ n) (k + 1) s) := by
  have h256 := p256 h8
  have hp := Nat.two_pow_pos n
  have sub1 : ∀ i, i ≤ h → nI (h - 1) - nI i + (-1 : Int32) = nI (h - 1) - nI (i + 1) := fun i _ => Int32.toBitVec.inj (by
    show BitVec.ofNat 32 (h - 1) - BitVec.ofNat 32 i + 4294967295#32 = BitVec.ofNat 32 (h - 1) - BitVec.ofNat 32 (i + 1)
    bv_omega)
  have mid : ∀ k, k < h → ∀ Y : mM, (∀ z, z ≠ 230 → Y z = X z) → (k ≠ 0 → ∀ t, t < 2 ^ n → Y 230 (256 * (h - k) + t) = nI (rR e x fu (2 ^ n) k t)) → ∃ Y', f_X12_laysPlaces_l8 (nI h) (nI x) but (nI (h - 1) - nI k) 0 Y = some (.inr (nI (h - 1) - nI (k + 1), Y')) ∧ (∀ z, z ≠ 230 → Y' z = X z) ∧ (∀ t, t < 2 ^ n → Y' 230 (256 * (h - 1 - k) + t) = nI (rR e x fu (2 ^ n) (k + 1) t)) ∧ ∀ j, 256 * (h - k) ≤ j → Y' 230 j = Y 230 j := fun k hk Y hY hT => by
    have ek : nI (h - 1) - nI k = nI (h - 1 - k) := pk_sub (by omega)
    unfold f_X12_laysPlaces_l8
    obtain ⟨q, a1, Y', a2, a3⟩ := wh_P (b := fun s : Int32 × mM => f_X12_laysPlaces_8 (nI h) (nI x) but (nI (h - 1) - nI k) s.1 s.2) (fun i (s : Int32 × mM) => s.1 = nI i ∧ (∀ z, z ≠ 230 → s.2 z = X z) ∧ (∀ t, t < i → s.2 230 (256 * (h - 1 - k) + t) = nI (rR e x fu (2 ^ n) (k + 1) t)) ∧ ∀ j, 256 * (h - k) ≤ j → s.2 230 j = Y 230 j) (fun q => ∃ Y', q = .inr (nI (h - 1) - nI (k + 1), Y') ∧ (∀ z, z ≠ 230 → Y' z = X z) ∧ (∀ t, t < 2 ^ n → Y' 230 (256 * (h - 1 - k) + t) = nI (rR e x fu (2 ^ n) (k + 1) t)) ∧ ∀ j, 256 * (h - k) ≤ j → Y' 230 j = Y 230 j) (2 ^ n) 100000 ((0 : Int32), Y) ⟨rfl, hY, fun t ht => absurd ht (Nat.not_lt_zero t), fun _ _ => rfl⟩ (fun i hi s hs' => by
      obtain ⟨a, Z⟩ := s
      obtain ⟨g1, g2, g3, g4⟩ := hs'
      dsimp only at g1 g2 g3 g4
      subst g1
      have hn' : Z 216 0 = nI n := by rw [g2 216 (by decide)]; exact hn
      have hev : f_X12_everybody Z = some (nI (2 ^ n - 1)) := by rw [M_every hn' h8, ev_nat h8]
      have hP : ∀ b, b = (sbN i e && decide (x ≤ fsN fu i)) → f_X12_laysPlaces_24 (nI h) (nI x) but (nI (h - 1) - nI k) (nI i) b Z = some (.inr (nI (i + 1), mst Z 230 (256 * (h - 1 - k) + i) (nI (rR e x fu (2 ^ n) (k + 1) i)))) := fun b hb => by
        rw [ek]
        exact m_place hn' h8 hk hh hi he hb fun hk0 t ht => by
          rw [g4 _ (by omega)]
          exact hT hk0 t ht
      have fin : ∃ s' : Int32 × mM, (some (.inr (nI (i + 1), mst Z 230 (256 * (h - 1 - k) + i) (nI (rR e x fu (2 ^ n) (k + 1) i)))) : Option (((Unit × mM) ⊕ (Int32 × mM)) ⊕ (Int32 × mM))) = some (.inr s') ∧ s'.1 = nI (i + 1) ∧ (∀ z, z ≠ 230 → s'.2 z = X z) ∧ (∀ t, t < i + 1 → s'.2 230 (256 * (h - 1 - k) + t) = nI (rR e x fu (2 ^ n) (k + 1) t)) ∧ ∀ j, 256 * (h - k) ≤ j → s'.2 230 j = Y 230 j := by
        refine ⟨_, rfl, rfl, fun z hz => (mst_no hz).trans (g2 z hz), fun t ht => ?_, fun j hj => (mst_nk (by omega)).trans (g4 j hj)⟩
        show mst Z 230 (256 * (h - 1 - k) + i) _ 230 (256 * (h - 1 - k) + t) = _
        by_cases h2 : t = i
        · rw [h2, mst_oo]
        · rw [mst_nk (by omega)]
          exact g3 t (by omega)
      show ∃ s', f_X12_laysPlaces_8 (nI h) (nI x) but (nI (h - 1) - nI k) (nI i) Z = some (.inr s') ∧ _
      have hfi := hfs i
      unfold f_X12_laysPlaces_8
      rw [hev, b1_s, i_lt (by omega) (by omega), decide_eq_false (by omega), cond_false, dn, hbut i hi]
      cases c : sbN i e
      · rw [Bool.not_false, cond_true]
        unfold f_X12_laysPlaces_23
        rw [hP false (by rw [c]; rfl)]
        exact fin
      · rw [Bool.not_true, cond_false, m_fullOf hn' h8 (fun j hj => by rw [g2 216 (by decide)]; exact hfu j hj) hi, b1_s, i_lt (by omega) (by omega)]
        by_cases c2 : fsN fu i < x
        · rw [decide_eq_true c2, cond_true]
          unfold f_X12_laysPlaces_23
          rw [hP false (by rw [c, decide_eq_false (by omega)]; rfl)]
          exact fin
        · rw [decide_eq_false c2, cond_false, hP true (by rw [c, decide_eq_true (by omega)]; rfl)]
          exact fin) (fun s hs' => by
      obtain ⟨a, Z⟩ := s
      obtain ⟨g1, g2, g3, g4⟩ := hs'
      dsimp only at g1 g2 g3 g4
      subst g1
      have hev : f_X12_everybody Z = some (nI (2 ^ n - 1)) := by rw [M_every (by rw [g2 216 (by decide)]; exact hn) h8, ev_nat h8]
      show ∃ q, f_X12_laysPlaces_8 (nI h) (nI x) but (nI (h - 1) - nI k) (nI (2 ^ n)) Z = some (.inl q) ∧ _
      unfold f_X12_laysPlaces_8
      rw [hev, b1_s, i_lt (by omega) (by omega), decide_eq_true (by omega), cond_true, sub1 k (by omega)]
      exact ⟨_, rfl, Z, rfl, g2, g3, g4⟩) (by omega)
    subst a2
    exact ⟨Y', a1, a3⟩
  unfold f_X12_laysPlaces f_X12_laysPlaces_l4
  rw [show nI h - (1 : Int32) = nI (h - 1) - nI 0 by obtain ⟨y, rfl⟩ : ∃ y, h = y + 1 := ⟨h - 1, by omega⟩; rw [nI_pred, pk_sub (Nat.zero_le _)]; rfl]
  refine wh_V (fun k (s : Int32 × mM) => s.1 = nI (h - 1) - nI k ∧ (∀ z, z ≠ 230 → s.2 z = X z) ∧ ∀ j, j < k → ∀ t, t < 2 ^ n → s.2 230 (256 * (h - 1 - j) + t) = nI (rR e x fu (2 ^ n) (j + 1) t)) () _ h _ _ ⟨rfl, fun _ _ => rfl, fun j hj => absurd hj (Nat.not_lt_zero j)⟩ (fun k hk s hs' => ?_) (fun s hs' => ?_) (by omega)
  · obtain ⟨a, Z⟩ := s
    obtain ⟨g1, g2, g3⟩ := hs'
    dsimp only at g1 g2 g3
    subst g1
    obtain ⟨Y', a1, a2, a3, a4⟩ := mid k hk Z g2 fun hk0 t ht => by
      obtain ⟨y, rfl⟩ : ∃ y, k = y + 1 := ⟨k - 1, by omega⟩
      rw [show h - (y + 1) = h - 1 - y by omega]
      exact g3 y (by omega) t ht
    show ∃ s', f_X12_laysPlaces_4 (nI h) (nI x) but (nI (h - 1) - nI k) Z = some (.inr s') ∧ _
    unfold f_X12_laysPlaces_4
    rw [show decide (nI (h - 1) - nI k < 0) = false by rw [pk_sub (by omega)]; exact decide_eq_false (nI_pos (by omega)), cond_false, a1]
    refine ⟨_, rfl, rfl, a2, fun j hj t ht => ?_⟩
    show Y' 230 _ = _
    by_cases h2 : j = k
    · rw [h2]; exact a3 t ht
    · rw [a4 _ (by omega)]
      exact g3 j (by omega) t ht
  · obtain ⟨a, Z⟩ := s
    obtain ⟨g1, g2, g3⟩ := hs'
    dsimp only at g1 g2 g3
    subst g1
    have eneg : decide (nI (h - 1) - nI h < 0) = true := (by decide : ∀ m, m ≤ 12 → 0 < m → decide (nI (m - 1) - nI m < 0) = true) h hh h0
    show ∃ M', f_X12_laysPlaces_4 (nI h) (nI x) but (nI (h - 1) - nI h) Z = some (.inl ((), M')) ∧ _
    unfold f_X12_laysPlaces_4
    rw [eneg, cond_true]
    exact ⟨_, rfl, g2, g3⟩
/-- the fewest of all -/
theorem m_fewest {X : mM} (hn : X 216 0 = nI n) (h8 : n ≤ 8) {h : Nat} (hT : ∀ t, t < 2 ^ n → X 230 t = nI (rR e x fu (2 ^ n) h t)) : f_X12_fewestPlaces X = some (nI (mnK (fun _ => true) (rR e x fu (2 ^ n) h) (2 ^ n))) := by
  have h256 := p256 h8
  have hp := Nat.two_pow_pos n
  have hev : f_X12_everybody X = some (nI (2 ^ n - 1)) := by rw [M_every hn h8, ev_nat h8]
  unfold f_X12_fewestPlaces f_X12_fewestPlaces_l4
  refine wh_ne (fun t => (nI (mnK (fun _ => true) (rR e x fu (2 ^ n) h) t), nI t)) (2 ^ n) _ (by omega) rfl (fun t ht => ?_) ?_
  · have b1 := mn_F (c := fun _ => true) (R := rR e x fu (2 ^ n) h) t
    have b2 := rR_le (e := e) (x := x) (fu := fu) (N := 2 ^ n) (k := h) (s := t)
    show f_X12_fewestPlaces_4 (nI (mnK (fun _ => true) (rR e x fu (2 ^ n) h) t)) (nI t) X = some (.inr (nI (mnK (fun _ => true) (rR e x fu (2 ^ n) h) (t + 1)), nI (t + 1)))
    rw [mnK_s]
    generalize mnK (fun _ => true) (rR e x fu (2 ^ n) h) t = z at b1 ⊢
    unfold f_X12_fewestPlaces_4
    rw [hev, b1_s, i_lt (by omega) (by omega), decide_eq_false (by omega), cond_false, gd_t (i_in (by omega) (by decide)), i_ix (by omega), hT t ht, mMin_n (by omega) (by omega), i_1, if_pos rfl]
  · show f_X12_fewestPlaces_4 _ (nI (2 ^ n)) X = _
    unfold f_X12_fewestPlaces_4
    rw [hev, b1_s, i_lt (by omega) (by omega), decide_eq_true (by omega), cond_true]
/-- what both say of all -/
theorem ro_all {h : Nat} (h0 : 0 < h) (hh : h ≤ 12) (he : e < 2 ^ n) (hn8 : n ≤ 8) : (mnK (fun _ => true) (rR e x fu (2 ^ n) h) (2 ^ n) ≤ 8 * h ∧ rF e x fu h e = mnK (fun _ => true) (rR e x fu (2 ^ n) h) (2 ^ n)) ∨ (mnK (fun _ => true) (rR e x fu (2 ^ n) h) (2 ^ n) = 1000000 ∧ 10000 ≤ rF e x fu h e) := by
  obtain ⟨k, rfl⟩ : ∃ k, h = k + 1 := ⟨h - 1, by omega⟩
  have h256 := p256 hn8
  exact ro_F (by omega) he h256 (ro_1 he h256 k (by omega)) ((sb_iff (by omega) (by omega)).mpr fun _ _ z => z) fun s hs1 => ⟨fun z => z.2, fun z => ⟨rfl, z⟩⟩
end
