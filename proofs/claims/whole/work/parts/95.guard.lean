/-! guard in the reference, and the op -/
section
variable {n : Nat} {M : mM} {W : Nat → Int32}
theorem in_P {m : Nat} (h : m ≤ 8) (p : Int32) : f_X12_in p 0 (nI m - 1) = isP m p := by
  rw [in_B]
  exact inB_n (by omega)
theorem p_lt (m : Nat) (p : Int32) : decide (p < nI m) = !decide (nI m ≤ p) := by
  rw [← dn]
  exact decide_eq_decide.mpr Int32.not_le.symm
/-- the rows named, as the reference keeps them -/
def dnI (m f : Nat) : Nat → Int32
  | 0 => 0
  | i + 1 => dnI m f i ||| f_X11_bit (nI (gO m f (m - 1 - i)))
theorem dn_R {m f : Nat} (h0 : 0 < m) (hm : m ≤ 4) (hf : f < m ^ m) : decide (nI m ≤ f_J6_bitCount_0f7a4 (dnI m f m)) = gR m f := by
  have : ∀ m, m ≤ 4 → 0 < m → ∀ f, f < m ^ m → decide (nI m ≤ f_J6_bitCount_0f7a4 (dnI m f m)) = gR m f := by decide +kernel
  exact this m hm h0 f hf
theorem m_256 {m : Nat} (hm : m ≤ 4) : m ^ m ≤ 256 := (by decide : ∀ m, m ≤ 4 → m ^ m ≤ 256) m hm
theorem or_tb {d r j : Nat} : (d ||| 2 ^ r).testBit j = (d.testBit j || decide (j = r)) := by rw [Nat.testBit_or, Nat.testBit_two_pow, dsy]
/-- one order in the reference -/
theorem m_canBe {X : mM} (hw : WF n W) (e : X 216 = W) {m : Nat} {P O : Nat → Nat} (h0 : 0 < m) (hm : m ≤ 4) (hA : Dst n m P O) (h223 : ∀ r, r < m → X 223 (2 * r) = nI (P r) ∧ X 223 (2 * r + 1) = nI (O r)) {S : Nat → Bool} (hS : S = fun d => sAf n W P O (fun j => d.testBit j)) (hS0 : S 0 = true) {f : Nat} (hf : f < m ^ m) : ∃ X', f_X12_canBe (nI f) (nI m) X = some (gVl S m f, X') ∧ (∀ z, z ≠ 219 → z ≠ 221 → z ≠ 227 → X' z = X z) ∧ ∀ j, j < m → X' 227 j = nI (gO m f j) := by
  have h8 := hw.2.1
  have h256 := m_256 hm
  -- the reliefs one behind another
  have rel : ∀ Y0 : mM, gR m f = true → (∀ z, z ≠ 227 → Y0 z = X z) → (∀ j, j < m → Y0 227 j = nI (gO m f j)) → ∃ X', f_X12_canBe_l44 (nI m) true 0 (rs Y0 219 (va_cpy W (Y0 219) 0 0 424)) = some (alK (fun k => S (gS m f (k + 1))) m, X') ∧ (∀ z, z ≠ 219 → z ≠ 221 → z ≠ 227 → X' z = X z) ∧ ∀ j, j < m → X' 227 j = nI (gO m f j) := fun Y0 hR hY hY7 => by
    generalize hK : rs Y0 219 (va_cpy W (Y0 219) 0 0 424) = K
    have K216 : K 216 = W := by rw [← hK, rs_ne (by decide), hY 216 (by decide)]; exact e
    have K227 : K 227 = Y0 227 := by rw [← hK, rs_ne (by decide)]
    let Q : Nat → Bool × Int32 × mM → Prop := fun k s => s.1 = true ∧ s.2.1 = nI k ∧ s.2.2 216 = wR n W P O (fun j => (gS m f k).testBit j) 4 ∧ (∀ j, j < 4 → (gS m f k).testBit j = true → j < m ∧ caB W P O j = true) ∧ ∀ z, z ≠ 216 → z ≠ 221 → s.2.2 z = K z
    -- brought back
    have back : ∀ (b : Bool) (Y : mM), (∀ j, 424 ≤ j → Y 216 j = W j) → (∀ z, z ≠ 216 → z ≠ 221 → Y z = K z) → ∃ X', f_X12_canBe_58 b Y = some (b, X') ∧ (∀ z, z ≠ 219 → z ≠ 221 → z ≠ 227 → X' z = X z) ∧ ∀ j, j < m → X' 227 j = nI (gO m f j) := fun b Y g1 g2 => by
      unfold f_X12_canBe_58
      rw [m_back3 (X := Y0) (Y := Y) (W := W) (by rw [g2 219 (by decide) (by decide), hK]) g1, b2_s]
      refine ⟨_, rfl, fun z z1 z2 z3 => ?_, fun j hj => ?_⟩
      · by_cases h6 : z = 216
        · rw [h6, rs_at]; exact e.symm
        · rw [rs_ne h6, g2 z h6 z2, ← hK, rs_ne z1]; exact hY z z3
      · rw [rs_ne (by decide), g2 227 (by decide) (by decide), K227]; exact hY7 j hj
    -- one step: what is said
    have one : ∀ k, k < m → ∀ s, Q k s → ∃ Y, f_X12_canBe_44 (nI m) s.1 s.2.1 s.2.2 = some (.inr (S (gS m f (k + 1)), nI (k + 1), Y)) ∧ (∀ z, z ≠ 216 → z ≠ 221 → Y z = K z) ∧ (∀ j, 424 ≤ j → Y 216 j = W j) ∧ (S (gS m f (k + 1)) = true → Q (k + 1) (true, nI (k + 1), Y)) := fun k hk s hq => by
      obtain ⟨a, b, Y⟩ := s
      obtain ⟨q1, q2, q3, q4, q5⟩ := hq
      dsimp only at q1 q2 q3 q4 q5
      subst q1 q2
      have hrm := gO_lt (f := f) (k := k) h0
      have hb : (gS m f k).testBit (gO m f k) = false := by
        have := alK_iff.mp hR k hk
        cases z : (gS m f k).testBit (gO m f k)
        · rfl
        · rw [z] at this; cases this
      obtain ⟨p1, p2⟩ := hA.1 _ hrm
      obtain ⟨w1, -⟩ := wR_up hw hA (D := fun j => (gS m f k).testBit j) (k := 4) q4
      have hca := wR_ca hw hA (D := fun j => (gS m f k).testBit j) (k := 4) q4 hrm fun j _ hj ej => by rw [ej] at hj; rw [hb] at hj; cases hj
      have eY : Y 223 = X 223 := by rw [q5 223 (by decide) (by decide), ← hK, rs_ne (by decide), hY 223 (by decide)]
      obtain ⟨Y', g1, g2, g3, g4⟩ := m_relieves (N := Y) (P := P) (O := O) (r := gO m f k) (by omega) (by rw [q3]; exact w1) p1 p2 (by rw [eY]; exact (h223 _ hrm).1) (by rw [eY]; exact (h223 _ hrm).2)
      rw [q3] at g1 g2 g3
      rw [hca] at g1 g2 g3
      -- the sets agree
      have eD : ∀ j, j < 4 → (gS m f (k + 1)).testBit j = ((gS m f k).testBit j || decide (j = gO m f k)) := fun j _ => or_tb
      have eV : (caB W P O (gO m f k) && stB n (wSw n (wR n W P O (fun j => (gS m f k).testBit j) 4) (P (gO m f k)) (O (gO m f k))) (fun _ => 0)) = S (gS m f (k + 1)) := by
        rw [hS]
        show _ = sAf n W P O (fun j => (gS m f (k + 1)).testBit j)
        rw [sAf_cg eD]
        unfold sAf
        cases c : caB W P O (gO m f k)
        · have : alK (fun j => !((gS m f k).testBit j || decide (j = gO m f k)) || caB W P O j) 4 = false := by
            cases z : alK (fun j => !((gS m f k).testBit j || decide (j = gO m f k)) || caB W P O j) 4
            · rfl
            · have := alK_iff.mp z (gO m f k) (by omega)
              rw [c, decide_eq_true rfl, Bool.or_true] at this
              cases this
          rw [this, Bool.false_and, Bool.false_and]
        · have : alK (fun j => !((gS m f k).testBit j || decide (j = gO m f k)) || caB W P O j) 4 = true := alK_iff.mpr fun j hj => by
            by_cases ej : j = gO m f k
            · rw [ej, c, Bool.or_true]
            · rw [decide_eq_false ej, Bool.or_false]
              cases z : (gS m f k).testBit j
              · rfl
              · rw [(q4 j hj z).2, Bool.or_true]
          rw [this, Bool.true_and, Bool.true_and, wR_add hw hA hrm c (D := fun j => (gS m f k).testBit j) hb (by omega) q4]
      rw [eV] at g1
      refine ⟨Y', ?_, fun z z1 z2 => (g4 z z1 z2).trans (q5 z z1 z2), fun j hj => ?_, fun hs1 => ⟨rfl, rfl, ?_, fun j hj hj' => ?_, fun z z1 z2 => (g4 z z1 z2).trans (q5 z z1 z2)⟩⟩
      · show f_X12_canBe_44 (nI m) true (nI k) Y = _
        unfold f_X12_canBe_44
        rw [i_ge (by omega) (by omega), decide_eq_true hk, Bool.not_true, cond_false, cond_true, gd_t (i_in (by omega) (by decide)), i_ix (by omega), show Y 227 k = nI (gO m f k) by rw [q5 227 (by decide) (by decide), K227]; exact hY7 k hk, g1, b2_s, i_1]
      · cases c : caB W P O (gO m f k)
        · rw [g3 c, wR_o (by omega)]
        · rw [g2 c, wSw_o (by omega), wR_o (by omega)]
      · dsimp only
        have hc : caB W P O (gO m f k) = true := by
          cases c : caB W P O (gO m f k)
          · rw [c, Bool.false_and, hs1] at eV; cases eV
          · rfl
        rw [g2 hc, wR_add hw hA hrm hc (D := fun j => (gS m f k).testBit j) hb (by omega) q4]
        exact wR_cg fun j hj => (eD j hj).symm
      · rw [eD j hj, Bool.or_eq_true] at hj'
        rcases hj' with h | h
        · exact q4 j hj h
        · rw [of_decide_eq_true h]
          refine ⟨hrm, ?_⟩
          cases c : caB W P O (gO m f k)
          · rw [c, Bool.false_and, hs1] at eV; cases eV
          · rfl
    have q0 : Q 0 (true, 0, K) := by
      refine ⟨rfl, rfl, ?_, fun j _ h => ?_, fun _ _ _ => rfl⟩
      · show K 216 = wR n W P O (fun j => (gS m f 0).testBit j) 4
        rw [K216]
        exact (wR_cg (D := fun j => (gS m f 0).testBit j) (D' := fun _ => false) (k := 4) fun j _ => Nat.zero_testBit j).symm
      · rw [show (gS m f 0).testBit j = false from Nat.zero_testBit j] at h
        cases h
    unfold f_X12_canBe_l44
    cases c : alK (fun k => S (gS m f (k + 1))) m
    · obtain ⟨k, k1, k2, k3⟩ := alK_first c
      refine wh_V (fun j s => (j ≤ k → Q j s) ∧ (j = k + 1 → ∃ Y, s = (false, nI (k + 1), Y) ∧ (∀ z, z ≠ 216 → z ≠ 221 → Y z = K z) ∧ ∀ j, 424 ≤ j → Y 216 j = W j)) false (fun X' => (∀ z, z ≠ 219 → z ≠ 221 → z ≠ 227 → X' z = X z) ∧ ∀ j, j < m → X' 227 j = nI (gO m f j)) (k + 1) _ _ ⟨fun _ => q0, fun h => absurd h (by omega)⟩ (fun j hj s hs' => ?_) (fun s hs' => ?_) (by omega)
      · obtain ⟨Y, g1, g2, g3, g4⟩ := one j (by omega) s (hs'.1 (by omega))
        refine ⟨_, g1, fun hjk => ?_, fun hjk => ?_⟩
        · have := alK_iff.mp k2 j (by omega)
          rw [this]
          exact g4 this
        · have ej : j = k := by omega
          subst ej
          rw [k3]
          exact ⟨Y, rfl, g2, g3⟩
      · obtain ⟨Y, rfl, g2, g3⟩ := hs'.2 rfl
        obtain ⟨X', b1, b2, b3⟩ := back false Y g3 g2
        show ∃ M', f_X12_canBe_44 (nI m) false (nI (k + 1)) Y = some (.inl (false, M')) ∧ _
        refine ⟨X', ?_, b2, b3⟩
        unfold f_X12_canBe_44
        rw [b1, b1_s]
        cases decide (nI m ≤ nI (k + 1)) <;> rfl
    · refine wh_V Q true (fun X' => (∀ z, z ≠ 219 → z ≠ 221 → z ≠ 227 → X' z = X z) ∧ ∀ j, j < m → X' 227 j = nI (gO m f j)) m _ _ q0 (fun j hj s hs' => ?_) (fun s hs' => ?_) (by omega)
      · obtain ⟨Y, g1, g2, g3, g4⟩ := one j hj s hs'
        have := alK_iff.mp c j hj
        refine ⟨_, g1, ?_⟩
        rw [this]
        exact g4 this
      · obtain ⟨a, b, Y⟩ := s
        obtain ⟨q1, q2, q3, q4, q5⟩ := hs'
        dsimp only at q1 q2 q3 q4 q5
        subst q1 q2
        obtain ⟨X', b1, b2, b3⟩ := back true Y (fun j hj => by rw [q3, wR_o (by omega)]) q5
        show ∃ M', f_X12_canBe_44 (nI m) true (nI m) Y = some (.inl (true, M')) ∧ _
        refine ⟨X', ?_, b2, b3⟩
        unfold f_X12_canBe_44
        rw [i_lee, cond_true, b1, b1_s]
  unfold f_X12_canBe f_X12_canBe_l8
  rw [show nI m - (1 : Int32) = nI (m - 1) - nI 0 by obtain ⟨y, rfl⟩ : ∃ y, m = y + 1 := ⟨m - 1, by omega⟩; rw [nI_pred, pk_sub (Nat.zero_le _)]; rfl]
  have sub1 : ∀ i, nI (m - 1) - nI i + (-1 : Int32) = nI (m - 1) - nI (i + 1) := fun i => Int32.toBitVec.inj (by
    show BitVec.ofNat 32 (m - 1) - BitVec.ofNat 32 i + 4294967295#32 = BitVec.ofNat 32 (m - 1) - BitVec.ofNat 32 (i + 1)
    bv_omega)
  refine wh_V (fun i (s : Int32 × Int32 × Int32 × mM) => s.1 = dnI m f i ∧ s.2.1 = nI (f / m ^ i) ∧ s.2.2.1 = nI (m - 1) - nI i ∧ (∀ z, z ≠ 227 → s.2.2.2 z = X z) ∧ ∀ j, j < m → m ≤ j + i → s.2.2.2 227 j = nI (gO m f j)) _ _ m _ _ ⟨rfl, by rw [Nat.pow_zero, Nat.div_one], rfl, fun _ _ => rfl, fun j h1 h2 => absurd h2 (by omega)⟩ (fun i hi s hs' => ?_) (fun s hs' => ?_) (by omega)
  · obtain ⟨a, b, c, Y⟩ := s
    obtain ⟨h1, h2, h3, h4, h5⟩ := hs'
    dsimp only at h1 h2 h3 h4 h5
    subst h1 h2 h3
    have hfi : f / m ^ i < 2 ^ 31 := Nat.lt_of_le_of_lt (Nat.div_le_self f _) (by omega)
    have ei : nI (m - 1) - nI i = nI (m - 1 - i) := pk_sub (by omega)
    have hm0 : decide (¬ nI m = (0 : Int32)) = true := decide_eq_true (nI_ne0 h0 (by omega))
    have eg : f / m ^ i % m = gO m f (m - 1 - i) := by unfold gO; rw [show m - 1 - (m - 1 - i) = i by omega]
    show ∃ s', f_X12_canBe_8 (nI m) (dnI m f i) (nI (f / m ^ i)) (nI (m - 1) - nI i) Y = some (.inr s') ∧ _
    unfold f_X12_canBe_8
    rw [sub1, ei, decide_eq_false (nI_pos (by omega)), cond_false, gd_t hm0, gd_t (i_in (by omega) (by decide)), wr_e, gd_t hm0, gd_t (i_in (by omega) (by decide)), i_ix (by omega), rmd_n hfi h0 (by omega), eg, mst_oo, bitE, pk_div hfi h0 (by omega), Nat.div_div_eq_div_mul, ← Nat.pow_succ]
    refine ⟨_, rfl, rfl, rfl, rfl, fun z hz => (mst_no hz).trans (h4 z hz), fun j j1 j2 => ?_⟩
    show mst Y 227 (m - 1 - i) (nI (gO m f (m - 1 - i))) 227 j = _
    by_cases hj : j = m - 1 - i
    · rw [hj, mst_oo]
    · rw [mst_nk hj]
      exact h5 j j1 (by omega)
  · obtain ⟨a, b, c, Y⟩ := s
    obtain ⟨h1, h2, h3, h4, h5⟩ := hs'
    dsimp only at h1 h2 h3 h4 h5
    subst h1 h2 h3
    have eneg : decide (nI (m - 1) - nI m < 0) = true := (by decide : ∀ m, m ≤ 4 → 0 < m → decide (nI (m - 1) - nI m < 0) = true) m hm h0
    show ∃ M', f_X12_canBe_8 (nI m) (dnI m f m) (nI (f / m ^ m)) (nI (m - 1) - nI m) Y = some (.inl (gVl S m f, M')) ∧ _
    unfold f_X12_canBe_8 gVl
    rw [eneg, cond_true, dn_R h0 hm hf]
    cases c : gR m f
    · rw [cond_false, Bool.false_and]
      exact ⟨Y, rfl, fun z _ _ z3 => h4 z z3, fun j hj => h5 j hj (by omega)⟩
    · obtain ⟨X', b1, b2, b3⟩ := rel Y c h4 fun j hj => h5 j hj (by omega)
      rw [cond_true, Bool.true_and, m_kp2 (show Y 216 = W by rw [h4 216 (by decide)]; exact e), b2_s, b1, b1_s]
      exact ⟨X', rfl, b2, b3⟩
theorem M_guard {X : mM} (hw : WF n W) (e : X 216 = W) (hst : stB n W (fun _ => 0) = true) {m : Nat} {P O : Nat → Nat} (hm : m ≤ 4) (hA : Dst n m P O) (h223 : ∀ r, r < m → X 223 (2 * r) = nI (P r) ∧ X 223 (2 * r + 1) = nI (O r)) {T S : Nat → Bool} (hS : S = fun d => sAf n W P O (fun j => d.testBit j)) (hT : T = tabK S m 16) {k : Int32} : ∃ X', f_X12_guard_l23 k (nI m) 1 0 X = some (bif isP m k then (bif T 0 then nI (gN T m (gK T m (ix k))) else -1) else -1, X') ∧ ∀ z, z ≠ 219 → z ≠ 221 → z ≠ 227 → X' z = X z := by
  have h256 := m_256 hm
  have hS0 : S 0 = true := by
    rw [hS]
    show sAf n W P O (fun j => (0 : Nat).testBit j) = true
    rw [sAf_cg (D' := fun _ => false) fun j _ => Nat.zero_testBit j, sAf_0]
    exact hst
  have hTT : tabT T S m := by rw [hT]; exact tab_T S hm
  -- all orders one behind another
  have run : ∀ j, j < m → k = nI j → ∃ X', f_X12_guard_l43 k (nI m) (nI (m ^ m)) 0 X = some (bif T 0 then nI (gN T m (gK T m j)) else -1, X') ∧ ∀ z, z ≠ 219 → z ≠ 221 → z ≠ 227 → X' z = X z := fun j hj ek => by
    have h0 : 0 < m := by omega
    obtain ⟨g1, g2⟩ := gd_main h0 hm hTT hS0
    have ask : ∀ f, f < m ^ m → ∀ Y : mM, (∀ z, z ≠ 219 → z ≠ 221 → z ≠ 227 → Y z = X z) → ∃ Y', f_X12_canBe (nI f) (nI m) Y = some (gVl S m f, Y') ∧ (∀ z, z ≠ 219 → z ≠ 221 → z ≠ 227 → Y' z = X z) ∧ ∀ j, j < m → Y' 227 j = nI (gO m f j) := fun f hf Y hY => by
      obtain ⟨Y', a1, a2, a3⟩ := m_canBe (X := Y) hw (by rw [hY 216 (by decide) (by decide) (by decide)]; exact e) h0 hm hA (fun r hr => by rw [hY 223 (by decide) (by decide) (by decide)]; exact h223 r hr) hS hS0 hf
      exact ⟨Y', a1, fun z z1 z2 z3 => (a2 z z1 z2 z3).trans (hY z z1 z2 z3), a3⟩
    have st : ∀ f, f < m ^ m → gVl S m f = false → ∀ s : Int32 × mM, (s.1 = nI f ∧ ∀ z, z ≠ 219 → z ≠ 221 → z ≠ 227 → s.2 z = X z) → ∃ s', f_X12_guard_43 k (nI m) (nI (m ^ m)) s.1 s.2 = some (.inr s') ∧ s'.1 = nI (f + 1) ∧ ∀ z, z ≠ 219 → z ≠ 221 → z ≠ 227 → s'.2 z = X z := fun f hf hv s hs' => by
      obtain ⟨a, Y⟩ := s
      obtain ⟨h1, h2⟩ := hs'
      dsimp only at h1 h2
      subst h1
      obtain ⟨Y', a1, a2, -⟩ := ask f hf Y h2
      show ∃ s', f_X12_guard_43 k (nI m) (nI (m ^ m)) (nI f) Y = some (.inr s') ∧ _
      unfold f_X12_guard_43
      rw [i_ge (by omega) (by omega), decide_eq_true hf, Bool.not_true, cond_false, a1, b2_s, hv, cond_false, i_1]
      exact ⟨_, rfl, rfl, a2⟩
    unfold f_X12_guard_l43
    cases c : T 0
    · rw [cond_false]
      refine wh_V (fun f (s : Int32 × mM) => s.1 = nI f ∧ ∀ z, z ≠ 219 → z ≠ 221 → z ≠ 227 → s.2 z = X z) _ _ (m ^ m) _ _ ⟨rfl, fun _ _ _ _ => rfl⟩ (fun f hf s hs' => st f hf (g2 c f hf) s hs') (fun s hs' => ?_) (by omega)
      obtain ⟨a, Y⟩ := s
      obtain ⟨h1, h2⟩ := hs'
      dsimp only at h1 h2
      subst h1
      show ∃ M', f_X12_guard_43 k (nI m) (nI (m ^ m)) (nI (m ^ m)) Y = some (.inl (-1, M')) ∧ _
      unfold f_X12_guard_43
      rw [i_lee, cond_true]
      exact ⟨_, rfl, h2⟩
    · obtain ⟨F, F1, F2, F3, F4⟩ := g1 c
      rw [cond_true]
      refine wh_V (fun f (s : Int32 × mM) => s.1 = nI f ∧ ∀ z, z ≠ 219 → z ≠ 221 → z ≠ 227 → s.2 z = X z) _ _ F _ _ ⟨rfl, fun _ _ _ _ => rfl⟩ (fun f hf s hs' => st f (by omega) (F3 f hf) s hs') (fun s hs' => ?_) (by omega)
      obtain ⟨a, Y⟩ := s
      obtain ⟨h1, h2⟩ := hs'
      dsimp only at h1 h2
      subst h1
      obtain ⟨Y', a1, a2, a3⟩ := ask F F1 Y h2
      show ∃ M', f_X12_guard_43 k (nI m) (nI (m ^ m)) (nI F) Y = _ ∧ _
      unfold f_X12_guard_43
      rw [i_ge (by omega) (by omega), decide_eq_true F1, Bool.not_true, cond_false, a1, b2_s, F2, cond_true, ek, gd_t (i_in (by omega) (by decide)), i_ix (by omega), a3 j hj, F4 j hj]
      exact ⟨_, rfl, a2⟩
  have hpw : ∀ i, i ≤ m → m ^ i ≤ 256 := fun i hi => by
    by_cases h0 : m = 0
    · subst h0
      rw [show i = 0 by omega]
      decide
    · exact Nat.le_trans (Nat.pow_le_pow_right (by omega) hi) h256
  unfold f_X12_guard_l23
  obtain ⟨r, e1, X', e2, e3⟩ := wh_P (b := fun s : Int32 × Int32 => f_X12_guard_23 k (nI m) s.1 s.2 X) (fun i (s : Int32 × Int32) => s.1 = nI (m ^ i) ∧ s.2 = nI i) (fun r => ∃ X', r = (bif isP m k then (bif T 0 then nI (gN T m (gK T m (ix k))) else -1) else -1, X') ∧ ∀ z, z ≠ 219 → z ≠ 221 → z ≠ 227 → X' z = X z) m 100000 ((1 : Int32), (0 : Int32)) ⟨rfl, rfl⟩ (fun i hi s hs' => by
    obtain ⟨a, b⟩ := s
    obtain ⟨h1, h2⟩ := hs'
    dsimp only at h1 h2
    subst h1 h2
    show ∃ s', f_X12_guard_23 k (nI m) (nI (m ^ i)) (nI i) X = some (.inr s') ∧ _
    unfold f_X12_guard_23
    rw [i_ge (by omega) (by omega), decide_eq_true hi, Bool.not_true, cond_false, pk_mul, i_1, ← Nat.pow_succ]
    exact ⟨_, rfl, rfl, rfl⟩) (fun s hs' => by
    obtain ⟨a, b⟩ := s
    obtain ⟨h1, h2⟩ := hs'
    dsimp only at h1 h2
    subst h1 h2
    show ∃ r, f_X12_guard_23 k (nI m) (nI (m ^ m)) (nI m) X = some (.inl r) ∧ _
    unfold f_X12_guard_23
    rw [i_lee, cond_true, in_P (by omega)]
    cases c : isP m k
    · rw [cond_false, cond_false]
      exact ⟨_, rfl, X, rfl, fun _ _ _ _ => rfl⟩
    · obtain ⟨j, hj, ej⟩ := isP_of (by omega) c
      obtain ⟨X', a1, a2⟩ := run j hj ej
      rw [cond_true, cond_true, a1, b1_s, ej, i_ix (by omega)]
      exact ⟨_, rfl, X', rfl, a2⟩) (by omega)
  subst e2
  exact ⟨X', e1, e3⟩
theorem C_row2 {N : mM} (hw : WF n W) (ht : TS n W N 35) {m : Nat} {P O : Nat → Nat} (hm : m ≤ 4) (hA : Dst n m P O) (h13 : N 13 3 = nI m) (h14 : ∀ r, r < m → N 14 r = nI (P r) ∧ N 15 r = nI (O r)) {T S : Nat → Bool} (hS : S = fun d => sAf n W P O (fun j => d.testBit j)) (hT : T = tabK S m 16) {k : Int32} : ∃ M1, f_X4_rowOf k 35 47 N = some (bif isP m k then (bif T 0 then nI (gN T m (gK T m (ix k))) else -1) else -1, M1) ∧ ∀ z, z ≠ 16 → (z < 47 ∨ 58 < z) → M1 z = N z := by
  cases c : isP m k
  · refine ⟨N, ?_, fun _ _ _ => rfl⟩
    unfold f_X4_rowOf
    rw [gd_t T35, gd_t T47, h13, p_lt, cond_false]
    unfold isP at c
    cases z : decide (k < 0)
    · rw [z, Bool.not_false, Bool.true_and] at c
      rw [cond_false, c, cond_false]
    · rfl
  · obtain ⟨j, hj, rfl⟩ := isP_of (show m ≤ 8 by omega) c
    obtain ⟨M1, a1, a2⟩ := C_rowOf hw ht (by omega) hm hA h13 h14 hS hT hj
    exact ⟨M1, by rw [a1, cond_true, i_ix (by omega)], a2⟩
def gdT (n : Nat) (W : Nat → Int32) (P O : Nat → Nat) (m : Nat) : Nat → Bool := tabK (fun d => sAf n W P O (fun j => d.testBit j)) m 16
def gdV (n : Nat) (W : Nat → Int32) (P O : Nat → Nat) (m : Nat) (k : Int32) : Int32 := bif isP m k then (bif gdT n W P O m 0 then nI (gN (gdT n W P O m) m (gK (gdT n W P O m) m (ix k))) else -1) else -1
theorem Op_guard (h : Rl n M) {k : Int32} : OpT M (f_X11_guard k) (f_X12_guard k) tOne := by
  have h8 := h.h8
  obtain ⟨L, B, hL, t1, t2, t3⟩ := h.tp.by'
  obtain ⟨M1, e1, f1, g1⟩ := C_rel h hL t1 t3
  have hC : f_X11_guard k M = tb (f_X11_mustBeOne (decide (L % 2 = 0) && (decide (L ≤ 8) && okG n B L)) (mst M1 1 1 0)) (fun _ M3 => b2 (f_X4_rowOf k 35 47 M3) (fun v4 M4 => some (.inl v4, M4))) := by
    unfold f_X11_guard
    rw [show M 35 0 = nI n from h.tr.1, e1, b2_s, wr_e]
  have hM : ∀ Mo : mM, (∀ z, 215 ≤ z → z ≠ 231 → Mo z = M z) → f_X12_guard k Mo = f_X12_guard_9 k (!(decide (L % 2 = 0) && (decide (L ≤ 8) && okG n B L))) (usM Mo L) := fun Mo ho => by
    unfold f_X12_guard
    rw [m_uses (L := L) (by rw [ho 215 (by decide) (by decide)]; exact t2), b2_s, m_isGuard (n := n) (L := L) (B := B) (by rw [us_z (by decide), ho 216 (by decide) (by decide)]; exact h.hn) h8 hL us_15 fun i hi => ⟨by rw [us_z (by decide), ho 223 (by decide) (by decide)]; exact (t3 i hi).2.2, (t3 i hi).1⟩, b1_s]
    cases decide (L % 2 = 0) && (decide (L ≤ 8) && okG n B L)
    · rw [cond_false, Bool.not_false]
    · rw [cond_true, Bool.not_true]
  cases c : decide (L % 2 = 0) && (decide (L ≤ 8) && okG n B L)
  · refine OpT.u h (r := .inr 0) (M1 := mst M1 1 1 0) ?_ (cq_rel f1) fun Mo ho => ⟨0, mst (usM Mo L) 215 0 1, ?_, rq_us.tr (RQ.st215 (by decide)), by rw [mst_no (by decide), us_z (by decide)], ?_, by decide⟩
    · rw [hC, c]; rfl
    · rw [hM Mo ho, c]
      unfold f_X12_guard_9
      rw [Bool.not_false, m_tIf, b2_s, cond_true, cond_true]
    · exact mst_oo _ _ _ _
  · obtain ⟨g2, g3⟩ := g1 c
    rw [Bool.and_eq_true, Bool.and_eq_true] at c
    have hL8 := of_decide_eq_true c.2.1
    have hA := gd_dst h8 hL8 c.2.2
    obtain ⟨M2, a1, a2⟩ := C_row2 (k := k) (N := mst M1 1 1 0) h.wf (h.ts.in216 h8 fun z z1 z2 => by rw [mst_no (by omega), f1 z (by omega) (by omega) (by omega)]) (m := L / 2) (by omega) hA (by rw [mst_no (by decide)]; exact g2) (fun r hr => by
      rw [mst_no (by decide), mst_no (by decide)]
      have x := g3 (2 * r) (by omega)
      have y := g3 (2 * r + 1) (by omega)
      rw [show 2 * r % 2 = 0 by omega, show 2 * r / 2 = r by omega] at x
      rw [show (2 * r + 1) % 2 = 1 by omega, show (2 * r + 1) / 2 = r by omega] at y
      exact ⟨x, y⟩) rfl rfl
    have a1' : f_X4_rowOf k 35 47 (mst M1 1 1 0) = some (gdV n (M 216) (fun r => B (2 * r)) (fun r => B (2 * r + 1)) (L / 2) k, M2) := a1
    refine OpT.u h (r := .inl (gdV n (M 216) (fun r => B (2 * r)) (fun r => B (2 * r + 1)) (L / 2) k)) (M1 := M2) ?_ ?_ fun Mo ho => ?_
    · rw [hC, c.1, c.2.1, c.2.2]
      unfold f_X11_mustBeOne
      rw [Bool.true_and, Bool.true_and, cond_true, tb_l, a1', b2_s]
    · exact (cq_rel f1).tr (CQ.of fun z hz => a2 z (fun e => by subst e; cases hz) (by have := sC_hi hz; omega))
    · have hlt : ∀ r, r < L / 2 → B (2 * r) < 8 ∧ B (2 * r + 1) < 8 := fun r hr => by have : B (2 * r) < n ∧ B (2 * r + 1) < n := hA.1 r hr; omega
      obtain ⟨M3, b1, b2⟩ := M_guard (k := k) (X := usM Mo L) (W := M 216) h.wf (by rw [us_z (by decide), ho 216 (by decide) (by decide)]) h.st (m := L / 2) (by omega) hA (fun r hr => by
        rw [us_z (by decide), ho 223 (by decide) (by decide), (t3 (2 * r) (by omega)).2.2, (t3 (2 * r + 1) (by omega)).2.2]
        exact ⟨sg_lo (by have := hlt r hr; omega), sg_lo (by have := hlt r hr; omega)⟩) rfl rfl
      have b1' : f_X12_guard_l23 k (nI (L / 2)) 1 0 (usM Mo L) = some (gdV n (M 216) (fun r => B (2 * r)) (fun r => B (2 * r + 1)) (L / 2) k, M3) := b1
      refine ⟨_, M3, ?_, rq_us.tr (RQ.of (fun z _ z2 z3 _ z5 => b2 z z2 z3 (by omega)) fun k _ => by rw [b2 215 (by decide) (by decide) (by decide)]), by rw [b2 231 (by decide) (by decide) (by decide), us_z (by decide)], rfl, by rw [b2 215 (by decide) (by decide) (by decide), us_0]⟩
      rw [hM Mo ho, c.1, c.2.1, c.2.2]
      unfold f_X12_guard_9
      rw [Bool.true_and, Bool.true_and, Bool.not_true, m_tIf, b2_s, cond_false, cond_false, us_15, i_2d (by omega), b1']
end
