/-! left and pillars, the ops -/
section
variable {n : Nat} {M : mM}
def stS (n : Nat) (W : Nat → Int32) (t : Nat) : Bool := stB n (wDown n W (upS n W &&& (nI t ^^^ (-1 : Int32)))) (fun _ => 0)
def lfB (n : Nat) (W : Nat → Int32) (t : Nat) : Bool := wi (nI t) (upS n W) && (!decide (nI t &&& topS n W = 0) && stS n W t)
theorem up_nat {W : Nat → Int32} : ∃ u, u < 256 ∧ upS n W = nI u := S8.nat (S8.set _)
theorem and_not {a b : Int32} (h : ∀ j, j < 32 → hs b j = true → hs a j = true) : a &&& ((a &&& (b ^^^ (-1 : Int32))) ^^^ (-1 : Int32)) = b := hs_ext fun j hj => by
  rw [hs_and, hs_nn hj, hs_and, hs_nn hj]
  have := h j hj
  cases ea : hs a j <;> cases eb : hs b j
  · rfl
  · rw [ea, eb] at this; exact absurd (this rfl) (by decide)
  · rfl
  · rfl
/-- the class asks whether those of t alone would stand -/
theorem C_stS {W : Nat → Int32} (hw : WF n W) {N : mM} (tr : TR n W N 35) {t : Nat} (ht : t < 256) (hwi : wi (nI t) (upS n W) = true) : ∃ M', f_X9_stands 35 (nI t) (N 35 2) N = some (stS n W t, M') ∧ ∀ z, z ≠ 43 → M' z = N z := by
  have h8 := hw.2.1
  have hsub := (wi_iff (nIs ht)).mp hwi
  have e1 : nI t = upS n W &&& ((upS n W &&& (nI t ^^^ (-1 : Int32))) ^^^ (-1 : Int32)) := (and_not fun j hj e => by
    by_cases h : j < 8
    · exact hsub j h e
    · rw [nIs ht j (by omega) hj] at e; cases e).symm
  obtain ⟨M', g1, g2⟩ := tr.stands T35 (ups := nI t) (sl := N 35 2) (fun p hp e => hsub p hp e)
  refine ⟨M', ?_, g2⟩
  rw [g1, tr.2.2.1, stG_dn h8 e1]
  rfl
theorem m_stS {W : Nat → Int32} (hw : WF n W) {N : mM} (e : N 216 = W) {t : Nat} : ∃ M2, f_X12_couldComeOut (upS n W &&& (nI t ^^^ (-1 : Int32))) N = some (stS n W t, M2) ∧ ∀ z, z ≠ 219 → z ≠ 221 → M2 z = N z := by
  have h8 := hw.2.1
  obtain ⟨M2, g1, g2⟩ := m_could (n := n) (set := upS n W &&& (nI t ^^^ (-1 : Int32))) hw.1 h8 e
  refine ⟨M2, ?_, g2⟩
  rw [g1, subK_n (set := upS n W &&& (nI t ^^^ (-1 : Int32))) (S8.andl (S8.set _)) fun p h1 h2 => by rw [hs_and, hs_ups h2, decide_eq_false (by omega), Bool.false_and, Bool.false_and]]
  rfl
theorem lfB_wi {W : Nat → Int32} {u : Nat} (hu : upS n W = nI u) : ∀ t, t < 256 → lfB n W t = true → wi (nI t) (nI u) = true := fun t _ h => by
  unfold lfB at h
  rw [Bool.and_eq_true] at h
  rw [← hu]
  exact h.1
theorem lfB_0 {W : Nat → Int32} : lfB n W 0 = false := by
  unfold lfB
  rw [show nI 0 &&& topS n W = 0 from Int32.zero_and, decide_eq_true rfl, Bool.not_true, Bool.false_and, Bool.and_false]
theorem i_dec {u i : Nat} (h : i < u) : nI (u - i) + (-1 : Int32) = nI (u - (i + 1)) := by
  obtain ⟨k, hk⟩ : ∃ k, u - i = k + 1 := ⟨u - i - 1, by omega⟩
  rw [hk, i_m1]
  exact congrArg nI (by omega)
theorem Op_left (h : Rl n M) : OpA M f_X11_left f_X12_left := by
  have h8 := h.h8
  have hn := h.hn
  obtain ⟨u, hu, eu⟩ := up_nat (n := n) (W := M 216)
  generalize hF : lfB n (M 216) = F
  have hFw : ∀ t, t < 256 → F t = true → wi (nI t) (nI u) = true := by rw [← hF]; exact lfB_wi eu
  have hF0 : F 0 = false := by rw [← hF]; exact lfB_0
  have hC : ∃ M1, f_X11_left M = some (nI (lfC F u 256), M1) ∧ ∀ z, z ≠ 43 → M1 z = M z := by
    obtain ⟨v, v1, v2⟩ := C_top h
    unfold f_X11_left f_X11_left_l13
    rw [v1, b1_s, v2, b1_s, h.up, eu]
    obtain ⟨A, hA⟩ : ∃ A : Nat → Nat, ∀ k, A k = lfC F u k := ⟨_, fun _ => rfl⟩
    rw [← hA 256]
    refine wh_3 (fun k => nI (A k)) (fun N => ∀ z, z ≠ 43 → N z = M z) _ 256 _ _ (by show nI u = nI (A 0); rw [hA 0]; rfl) (fun z _ => rfl) (fun k hk N hN => ?_) (fun N hN => ?_) (by decide)
    · have tr : TR n (M 216) N 35 := h.tr.o8 h8 hN
      have lt := lfC_lt (F := F) hu k (by omega)
      show ∃ M', f_X11_left_13 (topS n (M 216)) (nI (A k)) (nI k) N = some (.inr (nI (A (k + 1)), nI (k + 1), M')) ∧ _
      unfold f_X11_left_13 f_X11_left_24
      rw [i_256 hk, cond_false, hA, hA, lfC_s]
      rw [show f_J6_bitCount_0f7a4 (nI (lfC F u k)) = nI (cn (lfC F u k)) from bc_cn lt, show f_J6_bitCount_0f7a4 (nI k) = nI (cn k) from bc_cn hk, i_le (by have := cn_le (lfC F u k); omega) (by have := cn_le k; omega), i_1]
      cases c1 : decide (cn (lfC F u k) ≤ cn k)
      · have eF : F k = (wi (nI k) (upS n (M 216)) && (!decide (nI k &&& topS n (M 216) = 0) && stS n (M 216) k)) := by rw [← hF]; rfl
        rw [cond_false, cond_false, cond_true, tr.2.1, within_iff]
        show ∃ M', (bif wi (nI k) (upS n (M 216)) then _ else _) = _ ∧ _
        cases c2 : wi (nI k) (upS n (M 216))
        · rw [c2, Bool.false_and] at eF
          rw [cond_false, eF, cond_false]
          exact ⟨_, rfl, hN⟩
        · rw [c2, Bool.true_and] at eF
          rw [cond_true]
          cases c3 : decide (nI k &&& topS n (M 216) = 0)
          · rw [c3, Bool.not_false, Bool.true_and] at eF
            obtain ⟨M', g1, g2⟩ := C_stS h.wf tr hk c2
            rw [cond_false, g1, b2_s, eF]
            cases stS n (M 216) k
            · rw [cond_false, cond_false]
              exact ⟨_, rfl, fun z hz => (g2 z hz).trans (hN z hz)⟩
            · rw [cond_true, cond_true]
              exact ⟨_, rfl, fun z hz => (g2 z hz).trans (hN z hz)⟩
          · rw [c3, Bool.not_true, Bool.false_and] at eF
            rw [cond_true, eF, cond_false]
            exact ⟨_, rfl, hN⟩
      · rw [cond_true, cond_true, cond_false]
        exact ⟨_, rfl, hN⟩
    · show ∃ M', f_X11_left_13 _ (nI (A 256)) (nI 256) N = _ ∧ _
      unfold f_X11_left_13
      rw [i_2566, cond_true]
      exact ⟨_, rfl, hN⟩
  have eq : lfC F u 256 = lfM F u u := bst_eq hu hFw (lfC_b hu hFw) (lfM_b hu hFw hF0) (lfC_lt hu 256 (Nat.le_refl _)) (lfM_lt hu u)
  obtain ⟨M1, c1, c2⟩ := hC
  refine OpA.q h c1 (sC43 c2) fun h1 e1 => ?_
  have hM : ∃ M2, f_X12_left M1 = some (nI (lfC F u 256), M2) ∧ (∀ z, z ≠ 219 → z ≠ 221 → M2 z = mst M1 215 0 0 z) := by
    have e' : mst M1 215 0 0 216 = M 216 := by rw [mst_no (by decide), e1]
    unfold f_X12_left f_X12_left_l10
    rw [wr_e, m_ups (n := n) (by rw [e']; exact hn) h8, b1_s, e', eu, eq]
    obtain ⟨A, hA⟩ : ∃ A : Nat → Nat, ∀ k, A k = lfM F u k := ⟨_, fun _ => rfl⟩
    rw [← hA u]
    refine wh_V (fun k (s : Int32 × Int32 × mM) => s.1 = nI (A k) ∧ s.2.1 = nI (u - k) ∧ ∀ z, z ≠ 219 → z ≠ 221 → s.2.2 z = mst M1 215 0 0 z) _ _ u _ _ ⟨by rw [hA 0]; rfl, rfl, fun z _ _ => rfl⟩ (fun k hk s hs' => ?_) (fun s hs' => ?_) (by omega)
    · obtain ⟨a, b, N⟩ := s
      obtain ⟨h1, h2, hN⟩ := hs'
      dsimp only at h1 h2 hN
      subst h1 h2
      have N216 : N 216 = M 216 := (hN 216 (by decide) (by decide)).trans e'
      have lt := lfM_lt (F := F) hu k
      show ∃ s', f_X12_left_10 (nI u) (nI (A k)) (nI (u - k)) N = some (.inr s') ∧ _
      unfold f_X12_left_10
      have e0 : decide (nI (u - k) ≤ 0) = false := (i_le (a := u - k) (b := 0) (by omega) (by decide)).trans (decide_eq_false (by omega))
      have eF : F (u - k) = (wi (nI (u - k)) (nI u) && (!decide (nI (u - k) &&& topS n (M 216) = 0) && stS n (M 216) (u - k))) := by rw [← hF, ← eu]; rfl
      rw [e0, cond_false, i_dec hk, dn]
      show ∃ s', (bif !wi (nI (u - k)) (nI u) then _ else _) = _ ∧ _
      have stay : ∀ N' : mM, (∀ z, z ≠ 219 → z ≠ 221 → N' z = mst M1 215 0 0 z) → A (k + 1) = A k → ((nI (A k), nI (u - (k + 1)), N') : Int32 × Int32 × mM).1 = nI (A (k + 1)) ∧ nI (u - (k + 1)) = nI (u - (k + 1)) ∧ ∀ z, z ≠ 219 → z ≠ 221 → N' z = mst M1 215 0 0 z := fun N' g e => ⟨by rw [e], rfl, g⟩
      cases c2 : wi (nI (u - k)) (nI u)
      · rw [c2, Bool.false_and] at eF
        rw [Bool.not_false, cond_true]
        exact ⟨_, rfl, stay N hN (by rw [hA, hA, lfM_s, eF, Bool.false_and, cond_false])⟩
      · rw [c2, Bool.true_and] at eF
        rw [Bool.not_true, cond_false, M_upper (n := n) (by rw [N216]; exact hn) h8, b1_s, N216]
        cases c3 : decide (nI (u - k) &&& topS n (M 216) = 0)
        · rw [c3, Bool.not_false, Bool.true_and] at eF
          rw [cond_false, hA k, show f_J6_bitCount_0f7a4 (nI (lfM F u k)) = nI (cn (lfM F u k)) from bc_cn lt, show f_J6_bitCount_0f7a4 (nI (u - k)) = nI (cn (u - k)) from bc_cn (by omega), i_lt (by have := cn_le (lfM F u k); omega) (by have := cn_le (u - k); omega)]
          by_cases hlt : cn (lfM F u k) < cn (u - k)
          · rw [decide_eq_true hlt, cond_true, ← hA k]
            exact ⟨_, rfl, stay N hN (by rw [hA (k + 1), lfM_s, decide_eq_false (show ¬ cn (u - k) ≤ cn (lfM F u k) by omega), Bool.and_false, cond_false, hA])⟩
          · obtain ⟨M', g1, g2⟩ := m_stS h.wf N216 (t := u - k)
            rw [eu] at g1
            rw [decide_eq_false hlt, cond_false, g1, b2_s]
            have F2 : ∀ z, z ≠ 219 → z ≠ 221 → M' z = mst M1 215 0 0 z := fun z z1 z2 => (g2 z z1 z2).trans (hN z z1 z2)
            cases c4 : stS n (M 216) (u - k)
            · rw [c4] at eF
              rw [cond_false, ← hA k]
              exact ⟨_, rfl, stay M' F2 (by rw [hA (k + 1), lfM_s, eF, Bool.false_and, cond_false, hA])⟩
            · rw [c4] at eF
              rw [cond_true]
              exact ⟨_, rfl, by rw [hA (k + 1), lfM_s, eF, Bool.true_and, decide_eq_true (show cn (u - k) ≤ cn (lfM F u k) by omega), cond_true], rfl, F2⟩
        · rw [c3, Bool.not_true, Bool.false_and] at eF
          rw [cond_true]
          exact ⟨_, rfl, stay N hN (by rw [hA, hA, lfM_s, eF, Bool.false_and, cond_false])⟩
    · obtain ⟨a, b, N⟩ := s
      obtain ⟨h1, h2, hN⟩ := hs'
      dsimp only at h1 h2 hN
      subst h1 h2
      show ∃ M', f_X12_left_10 (nI u) (nI (A u)) (nI (u - u)) N = _ ∧ _
      unfold f_X12_left_10
      rw [Nat.sub_self, show decide (nI 0 ≤ 0) = true from rfl, cond_true]
      exact ⟨_, rfl, hN⟩
  obtain ⟨M2, d1, d2⟩ := hM
  exact ⟨M2, d1, rq_00.tr (RQ.of (fun z _ z2 z3 _ _ => d2 z z2 z3) fun k _ => by rw [d2 215 (by decide) (by decide)])⟩
/-- pillars -/
def pilB (n : Nat) (W : Nat → Int32) (t : Nat) : Bool := wi (nI t) (upS n W) && stS n W t
theorem Op_pillars (h : Rl n M) : OpA M f_X11_pillars f_X12_pillars := by
  have h8 := h.h8
  have hn := h.hn
  obtain ⟨u, hu, eu⟩ := up_nat (n := n) (W := M 216)
  generalize hG : (fun t => b01 (pilB n (M 216) t)) = G
  have hC : ∃ M1, f_X11_pillars M = some (sm G 256, M1) ∧ ∀ z, z ≠ 43 → M1 z = M z := by
    unfold f_X11_pillars f_X11_pillars_l4
    refine wh_3 (fun k => sm G k) (fun N => ∀ z, z ≠ 43 → N z = M z) _ 256 _ _ rfl (fun z _ => rfl) (fun k hk N hN => ?_) (fun N hN => ?_) (by decide)
    · have tr : TR n (M 216) N 35 := h.tr.o8 h8 hN
      show ∃ M', f_X11_pillars_4 (sm G k) (nI k) N = some (.inr (sm G (k + 1), nI (k + 1), M')) ∧ _
      unfold f_X11_pillars_4
      rw [i_256 hk, cond_false, tr.2.1, within_iff, sm_s, i_1]
      have eG : G k = b01 (wi (nI k) (upS n (M 216)) && stS n (M 216) k) := by rw [← hG]; rfl
      generalize sm G k = z
      show ∃ M', (bif wi (nI k) (upS n (M 216)) then _ else _) = _ ∧ _
      cases c2 : wi (nI k) (upS n (M 216))
      · rw [c2, Bool.false_and] at eG
        rw [cond_false, eG, show b01 false = 0 from rfl, Int32.add_zero]
        exact ⟨_, rfl, hN⟩
      · rw [c2, Bool.true_and] at eG
        obtain ⟨M', g1, g2⟩ := C_stS h.wf tr hk c2
        rw [cond_true, g1, b2_s, eG]
        cases stS n (M 216) k
        · rw [cond_false, show b01 false = 0 from rfl, Int32.add_zero]
          exact ⟨_, rfl, fun z hz => (g2 z hz).trans (hN z hz)⟩
        · rw [cond_true]
          exact ⟨_, rfl, fun z hz => (g2 z hz).trans (hN z hz)⟩
    · show ∃ M', f_X11_pillars_4 (sm G 256) (nI 256) N = _ ∧ _
      unfold f_X11_pillars_4
      rw [i_2566, cond_true]
      exact ⟨_, rfl, hN⟩
  have eS : sm G 256 = sm (fun t => G (u - t)) (u + 1) := by
    obtain ⟨y, hy⟩ : ∃ y, 256 = (u + 1) + y := ⟨256 - (u + 1), by omega⟩
    rw [hy, sm_add, sm_0 (f := fun k => G (u + 1 + k)) fun j hj => ?_, Int32.add_zero, sm_rev]
    · exact sm_congr fun i hi => congrArg G (by omega)
    · rw [← hG]
      show b01 (pilB n (M 216) (u + 1 + j)) = 0
      unfold pilB
      have : wi (nI (u + 1 + j)) (upS n (M 216)) = false := by
        cases e : wi (nI (u + 1 + j)) (upS n (M 216))
        · rfl
        · rw [eu] at e
          have := wi_le (show u + 1 + j < 256 by omega) hu e
          omega
      rw [this]
      rfl
  obtain ⟨M1, c1, c2⟩ := hC
  refine OpA.q h c1 (sC43 c2) fun h1 e1 => ?_
  have hM : ∃ M2, f_X12_pillars M1 = some (sm G 256, M2) ∧ (∀ z, z ≠ 219 → z ≠ 221 → M2 z = mst M1 215 0 0 z) := by
    have e' : mst M1 215 0 0 216 = M 216 := by rw [mst_no (by decide), e1]
    unfold f_X12_pillars f_X12_pillars_l10
    rw [wr_e, m_ups (n := n) (by rw [e']; exact hn) h8, b1_s, e', eu, eS]
    refine wh_3 (fun k => sm (fun t => G (u - t)) k) (fun N => ∀ z, z ≠ 219 → z ≠ 221 → N z = mst M1 215 0 0 z) _ (u + 1) _ _ rfl (fun z _ _ => rfl) (fun k hk N hN => ?_) (fun N hN => ?_) (by omega)
    · have N216 : N 216 = M 216 := (hN 216 (by decide) (by decide)).trans e'
      show ∃ M', f_X12_pillars_10 (nI u) (sm (fun t => G (u - t)) k) (nI k) N = some (.inr (sm (fun t => G (u - t)) (k + 1), nI (k + 1), M')) ∧ _
      unfold f_X12_pillars_10
      have e0 : decide (nI u < nI k) = false := (i_lt (by omega) (by omega)).trans (decide_eq_false (by omega))
      have eG : G (u - k) = b01 (wi (nI k) (nI u) && stS n (M 216) (u - k)) := by
        rw [← hG]
        show b01 (pilB n (M 216) (u - k)) = _
        unfold pilB
        rw [eu, wi_rev (by omega) hu]
      rw [e0, cond_false, dn, sm_s, i_1]
      generalize sm (fun t => G (u - t)) k = z
      show ∃ M', (bif !wi (nI k) (nI u) then _ else _) = _ ∧ _
      cases c2 : wi (nI k) (nI u)
      · rw [c2, Bool.false_and] at eG
        rw [Bool.not_false, cond_true, eG]
        exact ⟨_, rfl, hN⟩
      · rw [c2, Bool.true_and] at eG
        obtain ⟨M', g1, g2⟩ := m_stS h.wf N216 (t := u - k)
        rw [eu, (wi_sub (by omega) hu c2).2] at g1
        rw [Bool.not_true, cond_false, g1, b2_s, eG]
        cases stS n (M 216) (u - k)
        · rw [cond_false]
          exact ⟨_, rfl, fun z z1 z2 => (g2 z z1 z2).trans (hN z z1 z2)⟩
        · rw [cond_true]
          exact ⟨_, rfl, fun z z1 z2 => (g2 z z1 z2).trans (hN z z1 z2)⟩
    · show ∃ M', f_X12_pillars_10 (nI u) _ (nI (u + 1)) N = _ ∧ _
      unfold f_X12_pillars_10
      rw [show decide (nI u < nI (u + 1)) = true from (i_lt (by omega) (by omega)).trans (decide_eq_true (by omega)), cond_true]
      exact ⟨_, rfl, hN⟩
  obtain ⟨M2, d1, d2⟩ := hM
  exact ⟨M2, d1, rq_00.tr (RQ.of (fun z _ z2 z3 _ _ => d2 z z2 z3) fun k _ => by rw [d2 215 (by decide) (by decide)])⟩
end
