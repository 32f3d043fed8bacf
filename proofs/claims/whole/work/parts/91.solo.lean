/-! behind some rows it stands: by the class; one row, by the reference; solo -/
section
variable {n : Nat} {M : mM} {W : Nat → Int32}
theorem C_stA {N : mM} (hw : WF n W) (ht : TS n W N 35) {m : Nat} {P O : Nat → Nat} (hm : m ≤ 4) (hA : Dst n m P O) (h14 : ∀ r, r < m → N 14 r = nI (P r) ∧ N 15 r = nI (O r)) {s : Int32} (hs4 : ∀ j, j < 4 → hs s j = true → j < m) : ∃ M1, f_X4_standsAfter s 35 47 N = some (sAf n W P O (hs s), M1) ∧ ∀ z, (z < 47 ∨ 58 < z) → M1 z = N z := by
  have h8 := hw.2.1
  have hc : f_X9_copyFrom 47 35 N = some ((), cpT 47 35 N) := T_copy T47 T35
  have t0 : TR n W (cpT 47 35 N) 47 := (ht.mv h8 (cpT_e (by decide))).1
  have f0 : ∀ z, (z < 47 ∨ 58 < z) → cpT 47 35 N z = N z := fun z hz => cpT_F z (by omega)
  unfold f_X4_standsAfter f_X4_standsAfter_l5
  rw [gd_t T35, gd_t T47, hc, b2_s]
  let Q : Nat → Int32 × mM → Prop := fun k s' => s'.1 = nI k ∧ TR n (wR n W P O (hs s) k) s'.2 47 ∧ ∀ z, (z < 47 ∨ 58 < z) → s'.2 z = N z
  have can : ∀ k, k < 4 → alK (fun j => !hs s j || caB W P O j) k = true → ∀ j, j < k → hs s j = true → j < m ∧ caB W P O j = true := fun k hk ha j hj hD => by
    have := alK_iff.mp ha j hj
    rw [hD, Bool.not_true, Bool.false_or] at this
    exact ⟨hs4 j (by omega) hD, this⟩
  -- what is asked at row k
  have swp : ∀ k, k < 4 → hs s k = true → alK (fun j => !hs s j || caB W P O j) k = true → ∀ X : mM, TR n (wR n W P O (hs s) k) X 47 → (∀ z, (z < 47 ∨ 58 < z) → X z = N z) → f_X9_canSwap 47 (X 14 k) (X 15 k) X = some (caB W P O k) := fun k hk hD ha X tX fX => by
    have hkm := hs4 k hk hD
    obtain ⟨p1, p2⟩ := hA.1 k hkm
    obtain ⟨b1, b2⟩ := h14 k hkm
    have hca := wR_ca hw hA (D := hs s) (k := k) (r := k) (can k hk ha) hkm (fun j hj _ => by omega)
    rw [← hca]
    unfold f_X9_canSwap
    rw [gd_t T47, fX 14 (by decide), fX 15 (by decide), b1, b2, tX.2.1, has_hs (by omega), has_hs (by omega), hs_ups (by omega), hs_ups (by omega), decide_eq_true p1, decide_eq_true p2, Bool.true_and, Bool.true_and]
    unfold caB
    cases upB (wR n W P O (hs s) k) (P k) <;> cases upB (wR n W P O (hs s) k) (O k) <;> rfl
  have st : ∀ k, k < 4 → alK (fun j => !hs s j || caB W P O j) (k + 1) = true → ∀ s', Q k s' → ∃ s'', f_X4_standsAfter_5 35 47 s s'.1 s'.2 = some (.inr s'') ∧ Q (k + 1) s'' := fun k hk ha s' hq => by
    obtain ⟨a, X⟩ := s'
    obtain ⟨h1, h2, h3⟩ := hq
    dsimp only at h1 h2 h3
    subst h1
    rw [alK_s, Bool.and_eq_true] at ha
    show ∃ s'', f_X4_standsAfter_5 35 47 s (nI k) X = some (.inr s'') ∧ _
    unfold f_X4_standsAfter_5
    rw [show decide ((4 : Int32) ≤ nI k) = false from i_lit (a := 4) (by decide) hk, cond_false, has_hs (by omega), i_1, i_ix (by omega)]
    cases hD : hs s k
    · rw [cond_false]
      refine ⟨_, rfl, rfl, ?_, h3⟩
      show TR n (wR n W P O (hs s) (k + 1)) X 47
      rw [wR_s, hD]
      exact h2
    · have hkm := hs4 k hk hD
      obtain ⟨p1, p2⟩ := hA.1 k hkm
      obtain ⟨b1, b2⟩ := h14 k hkm
      have hck : caB W P O k = true := by
        have := ha.2
        rw [hD, Bool.not_true, Bool.false_or] at this
        exact this
      have hca := wR_ca hw hA (D := hs s) (k := k) (r := k) (can k hk ha.1) hkm (fun j hj _ => by omega)
      rw [hck] at hca
      obtain ⟨u1, u2⟩ := caB_o hca
      obtain ⟨w1, -⟩ := wR_up hw hA (D := hs s) (k := k) (can k hk ha.1)
      obtain ⟨M1, e1, t1, f1⟩ := h2.sw w1 p1 p2 u1 u2 T47
      rw [cond_true, gd_t (i_in (by omega) (by decide)), gd_t (i_in (by omega) (by decide)), swp k hk hD ha.1 X h2 h3, hck, b1_s, cond_true, gd_t (i_in (by omega) (by decide)), gd_t (i_in (by omega) (by decide)), h3 14 (by decide), h3 15 (by decide), b1, b2, e1, b2_s]
      refine ⟨_, rfl, rfl, ?_, fun z hz => (f1 z (by omega) (by omega) (by omega)).trans (h3 z hz)⟩
      show TR n (wR n W P O (hs s) (k + 1)) M1 47
      rw [wR_s, hD]
      exact t1
  have q0 : Q 0 (0, cpT 47 35 N) := ⟨rfl, t0, f0⟩
  unfold sAf
  cases c : alK (fun j => !hs s j || caB W P O j) 4
  · rw [Bool.false_and]
    obtain ⟨k, k1, k2, k3⟩ := alK_first c
    refine wh_V Q false (fun M1 => ∀ z, (z < 47 ∨ 58 < z) → M1 z = N z) k _ _ q0 (fun j hj s' hq => st j (by omega) (alK_iff.mpr fun i hi => alK_iff.mp k2 i (by omega)) s' hq) (fun s' hq => ?_) (by omega)
    obtain ⟨a, X⟩ := s'
    obtain ⟨h1, h2, h3⟩ := hq
    dsimp only at h1 h2 h3
    subst h1
    show ∃ M', f_X4_standsAfter_5 35 47 s (nI k) X = some (.inl (false, M')) ∧ _
    rw [Bool.or_eq_false_iff] at k3
    have hD : hs s k = true := by
      cases z : hs s k
      · rw [z] at k3; cases k3.1
      · rfl
    unfold f_X4_standsAfter_5
    rw [show decide ((4 : Int32) ≤ nI k) = false from i_lit (a := 4) (by decide) k1, cond_false, has_hs (by omega), hD, cond_true, i_ix (by omega), gd_t (i_in (by omega) (by decide)), gd_t (i_in (by omega) (by decide)), swp k k1 hD k2 X h2 h3, k3.2, b1_s, cond_false]
    exact ⟨_, rfl, h3⟩
  · rw [Bool.true_and]
    refine wh_V Q _ (fun M1 => ∀ z, (z < 47 ∨ 58 < z) → M1 z = N z) 4 _ _ q0 (fun j hj s' hq => st j hj (alK_iff.mpr fun i hi => alK_iff.mp c i (by omega)) s' hq) (fun s' hq => ?_) (by decide)
    obtain ⟨a, X⟩ := s'
    obtain ⟨h1, h2, h3⟩ := hq
    dsimp only at h1 h2 h3
    subst h1
    obtain ⟨M', e1, f1⟩ := h2.stands0 T47
    show ∃ M', f_X4_standsAfter_5 35 47 s (nI 4) X = _ ∧ _
    unfold f_X4_standsAfter_5
    rw [show decide ((4 : Int32) ≤ nI 4) = true from rfl, cond_true, e1, b2_s]
    exact ⟨_, rfl, fun z hz => (f1 z (by omega)).trans (h3 z hz)⟩
/-- one relief in the reference -/
theorem m_relieves {N : mM} {P O : Nat → Nat} {r : Nat} (hr : r < 4) (hw : WF n (N 216)) (hp : P r < n) (ho : O r < n) (h1 : N 223 (2 * r) = nI (P r)) (h2 : N 223 (2 * r + 1) = nI (O r)) : ∃ N', f_X12_relieves (nI r) N = some (caB (N 216) P O r && stB n (wSw n (N 216) (P r) (O r)) (fun _ => 0), N') ∧ (caB (N 216) P O r = true → N' 216 = wSw n (N 216) (P r) (O r)) ∧ (caB (N 216) P O r = false → N' 216 = N 216) ∧ ∀ z, z ≠ 216 → z ≠ 221 → N' z = N z := by
  have h8 := hw.2.1
  have e2 : (2 : Int32) * nI r = nI (2 * r) := pk_mul 2 r
  unfold f_X12_relieves
  rw [e2, i_1, gd_t (i_in (by omega) (by decide)), gd_t (i_in (by omega) (by decide)), i_ix (by omega), i_ix (by omega), h1, h2, m_isUp (by omega), b1_s]
  unfold caB
  cases c1 : upB (N 216) (P r)
  · rw [cond_false]
    exact ⟨_, rfl, fun h => (by cases h), fun _ => rfl, fun _ _ _ => rfl⟩
  · rw [cond_true, m_isUp (by omega), b1_s]
    cases c2 : upB (N 216) (O r)
    · rw [cond_false, m_changes hw hp ho c1 c2, b2_s, m_stands (n := n) (by rw [rs_at, wSw_o (by decide)]; exact hw.1) h8, b2_s, rs_at, stB_in _ (fun _ => 0)]
      exact ⟨_, rfl, fun _ => by rw [rs_ne (by decide), rs_at], fun h => (by cases h), fun z z1 z2 => by rw [rs_ne z2, rs_ne z1]⟩
    · rw [cond_true]
      exact ⟨_, rfl, fun h => (by cases h), fun _ => rfl, fun _ _ _ => rfl⟩
/-- what a right tape of reliefs tells -/
theorem gd_dst {B : Nat → Nat} {L : Nat} (h8 : n ≤ 8) (hL : L ≤ 8) (hok : okG n B L = true) : Dst n (L / 2) (fun r => B (2 * r)) (fun r => B (2 * r + 1)) := by
  have ne : ∀ i j, i < L → j < L → i ≠ j → B i ≠ B j := fun i j hi hj hij => by
    by_cases h : i < j
    · exact okG_ne h8 h hj hok
    · exact Ne.symm (okG_ne h8 (show j < i by omega) hi hok)
  exact ⟨fun r hr => ⟨okG_n (by omega) hok, okG_n (by omega) hok⟩, fun r s hr hs' hne => ⟨ne _ _ (by omega) (by omega) (by omega), ne _ _ (by omega) (by omega) (by omega), ne _ _ (by omega) (by omega) (by omega), ne _ _ (by omega) (by omega) (by omega)⟩⟩
theorem Tp.by' (h : Tp M) : ∃ (L : Nat) (B : Nat → Nat), L ≤ 400 ∧ M 1 1 = nI L ∧ M 215 13 = nI L ∧ ∀ i : Nat, i < L → (B i < 256 ∧ M 2 i = nI (B i) ∧ M 223 i = sgn8 (B i)) := by
  obtain ⟨L, b1, b2, b3, -, b5⟩ := h
  refine ⟨L, fun i => ix (M 2 i), b1, b2, b3, fun i hi => ?_⟩
  obtain ⟨b, c1, c2, c3⟩ := b5 i hi
  have : ix (M 2 i) = b := by rw [c2, i_ix (by omega)]
  dsimp only
  rw [this]
  exact ⟨c1, c2, c3⟩
/-- the class reads the rows of reliefs -/
theorem C_rel {L : Nat} {B : Nat → Nat} (h : Rl n M) (hL : L ≤ 400) (h1 : M 1 1 = nI L) (hB : ∀ i, i < L → (B i < 256 ∧ M 2 i = nI (B i) ∧ M 223 i = sgn8 (B i))) : ∃ M1, f_X4_read (nI n) M = some (decide (L % 2 = 0) && (decide (L ≤ 8) && okG n B L), M1) ∧ (∀ z, z ≠ 13 → z ≠ 14 → z ≠ 15 → M1 z = M z) ∧ ((decide (L % 2 = 0) && (decide (L ≤ 8) && okG n B L)) = true → M1 13 3 = nI (L / 2) ∧ ∀ i, i < L → M1 (14 + i % 2) (i / 2) = nI (B i)) := by
  have h8 := h.h8
  unfold f_X4_read
  rw [wr_e, show mst M 13 3 0 1 1 = nI L by rw [mst_no (by decide)]; exact h1, i_2m (by omega), show decide ((8 : Int32) < nI L) = decide (8 < L) from i_lt (a := 8) (by decide) (by omega)]
  have bad : ∃ M1, (some (false, mst M 13 3 0) : Option (Bool × mM)) = some (false, M1) ∧ (∀ z, z ≠ 13 → z ≠ 14 → z ≠ 15 → M1 z = M z) ∧ ((false : Bool) = true → M1 13 3 = nI (L / 2) ∧ ∀ i, i < L → M1 (14 + i % 2) (i / 2) = nI (B i)) := ⟨_, rfl, fun z z1 _ _ => mst_no z1, fun h => by cases h⟩
  by_cases h8' : L ≤ 8
  · rw [decide_eq_true h8', decide_eq_false (show ¬ 8 < L by omega), cond_false, Bool.true_and]
    by_cases h2 : L % 2 = 0
    · rw [h2, show decide (nI 0 = (0 : Int32)) = true from rfl, cond_true, decide_eq_true rfl, Bool.true_and]
      obtain ⟨M1, e1, e2, e3⟩ := C_rread (N := mst M 13 3 0) h8 h8' (by rw [mst_no (by decide)]; exact h1) (B := B) fun i hi => ⟨by rw [mst_no (by decide)]; exact (hB i hi).2.1, (hB i hi).1⟩
      exact ⟨M1, e1, fun z z1 z2 z3 => (e2 z z1 z2 z3).trans (mst_no z1), e3⟩
    · rw [show L % 2 = 1 by omega, show decide (nI 1 = (0 : Int32)) = false from rfl, cond_false, decide_eq_false (by decide), Bool.false_and]
      exact bad
  · rw [decide_eq_false h8', decide_eq_true (show 8 < L by omega), cond_true, Bool.false_and, Bool.and_false]
    exact bad
end
