/-! texts of a law to their ends; law, the op -/
section
variable {L : Nat} {B : Nat → Nat}
theorem lnP.cg {D D' : Nat → Int32} {X X' : mM} {e : Nat → Nat} {T : Nat → List Bool} {i : Nat} (h : lnP D X e T i) (hi : i < 12) (d : ∀ k, 424 < k → k < 1273 → D' k = D k) (f : ∀ z, 24 ≤ z → z ≤ 27 → X' z = X z) : lnP D' X' e T i := by
  obtain ⟨d1, d2, d3, d4, d5, d6, d7, d8, d9⟩ := h
  refine ⟨by rw [f _ (by omega) (by omega), d _ (by omega) (by omega)]; exact d1, by rw [f _ (by omega) (by omega), d _ (by omega) (by omega)]; exact d2, by rw [f _ (by omega) (by omega)]; exact d3, by rw [d _ (by omega) (by omega)]; exact d4, by rw [d _ (by omega) (by omega)]; exact d5, d6, d7, d8, fun j g1 g2 => ?_⟩
  rw [f _ (by omega) (by omega), d _ (by omega) (by omega), d _ (by omega) (by omega)]
  exact d9 j g1 g2
theorem DL.mv {X Y X' Y' : mM} {l c : Nat} (h : DL X Y l c) (hl : l ≤ 12) (f : fC X X') (g : fM Y Y') : DL X' Y' l c := by
  obtain ⟨h0, h1, h6, h20, e, T, hs, hi⟩ := h
  refine ⟨by rw [f.1 23 (by decide)]; exact h0, by rw [f.1 23 (by decide)]; exact h1, by rw [f.1 23 (by decide)]; exact h6, by rw [g.2 20 (by decide) (by decide)]; exact h20, e, T, hs, fun i hil => ?_⟩
  rw [g.1 216 (by decide)]
  exact (hi i hil).cg (by omega) (fun _ _ _ => rfl) fun z z1 z2 => f.1 z (by omega)
def RsM (L : Nat) (X Y : mM) (c : Option (Bool × mM)) (m : Option (Int32 × mM)) : Prop := (∃ X' Y' l c', l ≤ 12 ∧ c = some (true, X') ∧ m = some (nI l, Y') ∧ X' 1 3 = -1 ∧ DL X' Y' l c' ∧ hC4 X X' ∧ hM4 Y Y') ∨ (∃ X' Y', c = some (false, X') ∧ m = some (-1, Y') ∧ NoK L X Y X' Y')
theorem RsM.mv {X X0 Y Y0 : mM} {c : Option (Bool × mM)} {m : Option (Int32 × mM)} (h : RsM L X Y c m) (f : hC4 X0 X) (g : hM4 Y0 Y) : RsM L X0 Y0 c m := by
  rcases h with ⟨X', Y', l, c', h0, h1, h2, h3, h4, h5, h6⟩ | ⟨X', Y', h1, h2, w, h3, h4, h5, h6, h7⟩
  · exact Or.inl ⟨X', Y', l, c', h0, h1, h2, h3, h4, f.tr h5, g.tr h6⟩
  · exact Or.inr ⟨X', Y', h1, h2, w, h3, h4, h5, f.tr h6, g.tr h7⟩
theorem k_rows (hT : txt L B) : ∀ (j fc fm : Nat) (X Y : mM) (p c : Nat), j ≤ 12 → j + 3 ≤ fc → j + 3 ≤ fm → p ≤ L → c ≤ p → tC X L B (sB L B p) → tM Y L B p → DL X Y (12 - j) c → RsM L X Y (wh fc (fun s : Int32 × Int32 × mM => f_X1_read_13 23 s.1 s.2.1 s.2.2) (1, nI (12 - j), X)) (wh fm (fun s : Int32 × mM => f_X12_readAll_16 false s.1 s.2) (nI (12 - j), Y)) := by
  intro j
  induction j with
  | zero =>
    intro fc fm X Y p c hj hfc hfm hp hcp hX hY hD
    obtain ⟨fc, rfl⟩ : ∃ y, fc = y + 1 := ⟨fc - 1, by omega⟩
    obtain ⟨fm, rfl⟩ : ∃ y, fm = y + 1 := ⟨fm - 1, by omega⟩
    obtain ⟨s1, s2⟩ := sB_le (B := B) hp
    obtain ⟨Y1, y1, y2, y3, y4⟩ := M_letters hT hY hp
    right
    refine ⟨mst X 1 3 (nI (sB L B p)), Y1, wh_eE ?_, wh_eE (r := some (-1, Y1)) ?_, NoK.mk s2 (mst_oo _ _ _ _) y3 (fC.w (fC.st (by decide))) y4.w⟩
    · show f_X1_read_13 23 1 (nI 12) X = _
      unfold f_X1_read_13
      rw [show decide ((12 : Int32) ≤ nI 12) = true from rfl, cond_true]
      unfold f_X1_read_41
      rw [show decide ((1 : Int32) = 0) = false from rfl, cond_false, hX.2.2.1, C_wrong hX.2.2.2, b2_s, cond_false]
    · show f_X12_readAll_16 false (nI 12) Y = _
      unfold f_X12_readAll_16 f_X12_readLine f_X12_readLine_8
      rw [y1, b2_s, cond_false, show decide ((12 : Int32) ≤ nI 12) = true from rfl, cond_true, b2_s, cond_false]
      rfl
  | succ j ih =>
    intro fc fm X Y p c hj hfc hfm hp hcp hX hY hD
    obtain ⟨fc, rfl⟩ : ∃ y, fc = y + 1 := ⟨fc - 1, by omega⟩
    obtain ⟨fm, rfl⟩ : ∃ y, fm = y + 1 := ⟨fm - 1, by omega⟩
    obtain ⟨l, hl⟩ : ∃ l, l = 12 - (j + 1) := ⟨_, rfl⟩
    rw [← hl] at hD ⊢
    have hlj : 12 - j = l + 1 := by omega
    have hC0 : f_X1_read_13 23 1 (nI l) X = b2 (f_X1_readLine 23 X) (fun v11 M11 => bif v11 then (b1 (f_X7_ended M11) (fun v13 => bif v13 then (f_X1_read_30 23 (nI l) false M11) else (f_X1_read_30 23 (nI l) true M11))) else (some (.inl (false, M11)))) := by
      unfold f_X1_read_13
      rw [show decide ((12 : Int32) ≤ nI l) = false from i_lit (a := 12) (by decide) (by omega), cond_false, show decide ((1 : Int32) = 0) = false from rfl, cond_false]
    rcases k_line hT (l := l) (by omega) hp hcp hX hY hD with ⟨X1, Y1, p1, c1, g1, g2, g3, g4, g5, g6, g7, g8, g9⟩ | ⟨X1, Y1, g1, g2, g3⟩
    · obtain ⟨s1, s2⟩ := sB_le (B := B) g3
      obtain ⟨Y2, b1', b2', b3', b4'⟩ := M_blanks hT g6 g3
      have hend : f_X7_ended X1 = some (!decide (sB L B p1 < L)) := by
        have := hT.1
        unfold f_X7_ended
        rw [g5.2.2.1, g5.1, i_lt (by omega) (by omega)]
        cases decide (sB L B p1 < L) <;> rfl
      have hC1' : f_X1_read_13 23 1 (nI l) X = bif decide (sB L B p1 < L) then f_X1_read_30 23 (nI l) true X1 else f_X1_read_30 23 (nI l) false X1 := by
        rw [hC0, g1, b2_s, cond_true, hend, b1_s]
        cases decide (sB L B p1 < L) <;> rfl
      have hM0 : f_X12_readAll_16 false (nI l) Y = bif decide (sB L B p1 < L) then (bif sgB L B (sB L B p1) 59 then some (.inr (nI (l + 1), mst Y2 215 14 (nI (sB L B p1 + 1)))) else some (.inl (-1, Y2))) else some (.inl (nI (l + 1), Y2)) := by
        have := hT.1
        unfold f_X12_readAll_16
        rw [g2, b2_s, cond_true, b1', b2_s, show Y2 215 14 = nI (sB L B p1) from b2'.2.2, b2'.1, dn, i_eq (by omega) (by omega), M_semi hT b2' s2, b1_s, i_1, i_1]
        by_cases e : sB L B p1 < L
        · rw [decide_eq_false (show ¬ sB L B p1 = L by omega), decide_eq_true e, Bool.not_false, cond_true, cond_true, wr_e]
        · rw [decide_eq_true (show sB L B p1 = L by omega), decide_eq_false e, Bool.not_true, cond_false, cond_false]
      by_cases e : sB L B p1 < L
      · rw [decide_eq_true e, cond_true] at hC1' hM0
        obtain ⟨m1, m2⟩ := C_mustSign hT g5 s2 (c := 59) (by decide)
        have h28 : f_X1_read_30 23 (nI l) true X1 = b2 (f_X7_mustSign (59 : Int32) X1) (fun v2 M2 => bif v2 then (some (.inr (mB true, nI l + (1 : Int32), M2))) else (some (.inl (false, M2)))) := rfl
        rw [h28] at hC1'
        cases cs : sgB L B (sB L B p1) 59
        · right
          rw [show f_X7_mustSign (59 : Int32) X1 = _ from m2 cs, b2_s, cond_false] at hC1'
          rw [cs, cond_false] at hM0
          refine ⟨_, Y2, wh_eE (r := some (false, mst X1 1 3 (nI (sB L B p1)))) ?_, wh_eE (r := some (-1, Y2)) ?_, NoK.mk s2 (mst_oo _ _ _ _) b3' (g8.tr (fC.w (fC.st (by decide)))) (g9.tr b4'.w)⟩
          · exact hC1'
          · exact hM0
        · obtain ⟨l1, X2, x1, x2, x3⟩ := m1 cs
          rw [show f_X7_mustSign (59 : Int32) X1 = _ from x1, b2_s, cond_true, i_1] at hC1'
          rw [cs, cond_true] at hM0
          rw [wh_sS (b := fun s : Int32 × Int32 × mM => f_X1_read_13 23 s.1 s.2.1 s.2.2) (s := (1, nI l, X)) (s' := (1, nI (l + 1), X2)) hC1', wh_sS (b := fun s : Int32 × mM => f_X12_readAll_16 false s.1 s.2) (s := (nI l, Y)) (s' := (nI (l + 1), mst Y2 215 14 (nI (sB L B p1 + 1)))) hM0, ← hlj]
          have hD2 : DL X2 (mst Y2 215 14 (nI (sB L B p1 + 1))) (12 - j) c1 := by
            rw [hlj]
            exact g7.mv (by omega) x3 (b4'.tr (fM.st (Or.inl rfl)))
          exact (ih fc fm X2 _ (sB L B p1 + 1) c1 (by omega) (by omega) (by omega) l1 (by omega) x2 (b2'.pt _) hD2).mv (g8.tr x3.w) (g9.tr (b4'.tr (fM.st (Or.inl rfl))).w)
      · rw [decide_eq_false e, cond_false] at hC1' hM0
        left
        have h28 : f_X1_read_30 23 (nI l) false X1 = some (.inr (mB false, nI l + (1 : Int32), X1)) := rfl
        rw [h28, i_1] at hC1'
        obtain ⟨fc, rfl⟩ : ∃ y, fc = y + 1 := ⟨fc - 1, by omega⟩
        refine ⟨X1, Y2, l + 1, c1, by omega, ?_, wh_eE (r := some (nI (l + 1), Y2)) hM0, g5.2.2.2, g7.mv (by omega) fC.rf b4', g8, g9.tr b4'.w⟩
        rw [wh_sS (b := fun s : Int32 × Int32 × mM => f_X1_read_13 23 s.1 s.2.1 s.2.2) (s := (1, nI l, X)) (s' := (0, nI (l + 1), X1)) hC1']
        refine wh_eE (r := some (true, X1)) ?_
        show f_X1_read_13 23 0 (nI (l + 1)) X1 = _
        unfold f_X1_read_13
        rw [show decide ((0 : Int32) = 0) = true from rfl, cond_true]
        cases decide ((12 : Int32) ≤ nI (l + 1)) <;> rfl
    · right
      refine ⟨X1, Y1, wh_eE (r := some (false, X1)) ?_, wh_eE (r := some (-1, Y1)) ?_, g3⟩
      · show f_X1_read_13 23 1 (nI l) X = _
        rw [hC0, g1, b2_s, cond_false]
        rfl
      · show f_X12_readAll_16 false (nI l) Y = _
        unfold f_X12_readAll_16
        rw [g2, b2_s, cond_false]
        rfl
/-- from the beginning -/
theorem k_all (hT : txt L B) {X Mo : mM} (h1 : X 1 1 = nI L) (h2 : ∀ i, i < L → X 2 i = nI (B i)) (g13 : Mo 215 13 = nI L) (g223 : ∀ i, i < L → Mo 223 i = sgn8 (B i)) : RsM L X (mst (usM Mo L) 215 20 0) (f_X1_read 23 X) (f_X12_readAll false Mo) := by
  have hL := hT.1
  generalize hY : mst (usM Mo L) 215 20 0 = Y
  have tY : tM Y L B 0 := ⟨by rw [← hY, mst_nk (by decide)]; exact us_15, fun i hi => by rw [← hY, mst_no (by decide), us_z (by decide)]; exact g223 i hi, by rw [← hY, mst_nk (by decide)]; exact us_14⟩
  have Y20 : Y 215 20 = 0 := by rw [← hY]; exact mst_oo _ _ _ _
  have hM0 : f_X12_readAll false Mo = b2 (f_X12_blanks Y) (fun v10 M10 => bif decide (¬ (M10 215 14) = (M10 215 15)) then (f_X12_readAll_l16 false (0 : Int32) M10) else (some ((0 : Int32), M10))) := by
    unfold f_X12_readAll
    rw [m_uses g13, b2_s, wr_e, hY]
  obtain ⟨Y1, y1, y2, y3, y4⟩ := M_blanks hT tY (Nat.zero_le L)
  obtain ⟨s1, s2⟩ := sB_le (B := B) (Nat.zero_le L)
  have hX3 : tC (mst (mst X 1 3 (-1)) 1 2 (nI (sB L B 0))) L B (sB L B 0) := ⟨by rw [mst_nk (by decide), mst_nk (by decide)]; exact h1, fun i hi => by rw [mst_no (by decide), mst_no (by decide)]; exact h2 i hi, mst_oo _ _ _ _, by rw [mst_nk (by decide), mst_oo]⟩
  have hmv : f_X7_moveTo (0 : Int32) (mst X 1 3 (-1)) = some ((), mst (mst X 1 3 (-1)) 1 2 (nI (sB L B 0))) := C_move3 hT (p := 0) ((mst_nk (by decide)).trans h1) (fun i hi => by rw [mst_no (by decide)]; exact h2 i hi) (Nat.zero_le L)
  have fX : fC X (mst (mst X 1 3 (-1)) 1 2 (nI (sB L B 0))) := (fC.st (by decide)).tr (fC.st (by decide))
  generalize mst (mst X 1 3 (-1)) 1 2 (nI (sB L B 0)) = X0 at hX3 hmv fX
  have hcl : f_X0_clear 23 X0 = some ((), mst (mst (mst X0 23 0 1) 23 1 0) 23 6 0) := by
    unfold f_X0_clear
    rw [gd_t (show mLwB 23 = true by decide)]
    rfl
  have fX2 : hC4 X (mst (mst (mst X0 23 0 1) 23 1 0) 23 6 0) := fX.w.tr ⟨fun z _ z2 => by rw [mst_no (by omega), mst_no (by omega), mst_no (by omega)], by rw [mst_no (by decide), mst_no (by decide), mst_no (by decide)]⟩
  have hX1 : tC (mst (mst (mst X0 23 0 1) 23 1 0) 23 6 0) L B (sB L B 0) := hX3.cg (by rw [mst_no (by decide), mst_no (by decide), mst_no (by decide)]) (by rw [mst_no (by decide), mst_no (by decide), mst_no (by decide)])
  have hD : DL (mst (mst (mst X0 23 0 1) 23 1 0) 23 6 0) Y1 0 0 := ⟨by rw [mst_nk (by decide), mst_nk (by decide), mst_oo], by rw [mst_nk (by decide), mst_oo]; rfl, mst_oo _ _ _ _, by rw [y4.2 20 (by decide) (by decide)]; exact Y20, fun _ => 0, fun _ => [], rfl, fun i hi => absurd hi (Nat.not_lt_zero i)⟩
  have hrw : f_X7_rewind X = some ((), X0) := by
    unfold f_X7_rewind
    rw [wr_e, hmv, b2_s]
  generalize mst (mst (mst X0 23 0 1) 23 1 0) 23 6 0 = X1 at hcl fX2 hX1 hD
  have hend : f_X7_ended X1 = some (!decide (sB L B 0 < L)) := by
    unfold f_X7_ended
    rw [hX1.2.2.1, hX1.1, i_lt (by omega) (by omega)]
    cases decide (sB L B 0 < L) <;> rfl
  have hC0 : f_X1_read 23 X = bif decide (sB L B 0 < L) then f_X1_read_l13 23 1 0 X1 else f_X1_read_l13 23 0 0 X1 := by
    unfold f_X1_read
    rw [gd_t (show mLwB 23 = true by decide), hrw, b2_s, hcl, b2_s, hend, b1_s]
    cases decide (sB L B 0 < L) <;> rfl
  rw [hM0, y1, b2_s, show Y1 215 14 = nI (sB L B 0) from y2.2.2, y2.1, dn, i_eq (by omega) (by omega), hC0]
  by_cases e : sB L B 0 < L
  · rw [decide_eq_true e, cond_true, decide_eq_false (show ¬ sB L B 0 = L by omega), Bool.not_false, cond_true]
    exact (k_rows hT 12 100000 100000 X1 Y1 (sB L B 0) 0 (Nat.le_refl _) (by decide) (by decide) s2 (Nat.zero_le _) hX1.ss y2 hD).mv fX2 y4.w
  · rw [decide_eq_false e, cond_false, decide_eq_true (show sB L B 0 = L by omega), Bool.not_true, cond_false]
    left
    refine ⟨X1, Y1, 0, 0, by decide, ?_, rfl, hX1.2.2.2, hD, fX2, y4.w⟩
    unfold f_X1_read_l13
    refine wh_eE (n := 99999) (r := some (true, X1)) ?_
    show f_X1_read_13 23 0 0 X1 = _
    rfl
end
section
variable {n : Nat} {M : mM}
/-- drafts don't count -/
theorem Rl.dft {A M2 : mM} (h : Rl n A) (e : ∀ z, z ≠ 216 → M2 z = A z) (e6 : ∀ k, k < 1273 → M2 216 k = A 216 k) : Rl n M2 := by
  have h8 := h.h8
  have eW : eqW (A 216) (M2 216) := fun k hk => (e6 k (by omega)).symm
  refine ⟨h.wf.eq eW, by rw [← eW.st]; exact h.2.1, (h.ts.eq eW h8).in216 h8 fun z z1 z2 => e z (by have := z2; omega), (h.lw.eq fun k hk => e6 k hk).rf fun j hj => e _ (by omega), h.tp.mv (e 1 (by decide)) (e 2 (by decide)) (e 223 (by decide)) (by rw [e 215 (by decide)]) (by rw [e 215 (by decide)]), h.im.mv (by rw [e 0 (by decide)]) (by rw [e 215 (by decide)]) (e 217 (by decide)) (fun z z1 z2 => e z (by omega)) (fun z z1 z2 => e z (by omega)), ?_⟩
  obtain ⟨y, c, hCp, hMp⟩ := h.ps.out
  exact Ps.mk (Mc := M2) (Mm := A) (hCp.mv fun z hz => e z (by omega)) hMp (fun z _ => rfl) (by rw [e 215 (by decide)]) (e 220 (by decide)) (e6 2 (by decide))
/-- the law's copying -/
theorem M_takesLaw {Y : mM} {l : Nat} : ∃ Y', f_X12_law_l30 (nI l) 0 Y = some (nI l, Y') ∧ (∀ z, z ≠ 215 → z ≠ 216 → Y' z = Y z) ∧ (∀ k, k ≠ 7 → Y' 215 k = Y 215 k) ∧ Y' 215 7 = 0 ∧ Y' 216 2 = 1 ∧ (∀ k, k < 424 → k ≠ 2 → Y' 216 k = Y 216 k) ∧ ∀ k, k < 849 → Y' 216 (424 + k) = Y 216 (1273 + k) := by
  unfold f_X12_law_l30
  refine wh_V (fun k (s : Int32 × mM) => s.1 = nI k ∧ (∀ z, z ≠ 216 → s.2 z = Y z) ∧ (∀ j, j < k → s.2 216 (424 + j) = Y 216 (1273 + j)) ∧ ∀ j, (j < 424 ∨ 424 + k ≤ j) → s.2 216 j = Y 216 j) _ _ 849 _ _ ⟨rfl, fun _ _ => rfl, fun j hj => absurd hj (Nat.not_lt_zero j), fun _ _ => rfl⟩ (fun k hk s hs' => ?_) (fun s hs' => ?_) (by decide)
  · obtain ⟨a, Z⟩ := s
    obtain ⟨h1, h2, h3, h4⟩ := hs'
    dsimp only at h1 h2 h3 h4
    subst h1
    show ∃ s', f_X12_law_30 (nI l) (nI k) Z = some (.inr s') ∧ _
    unfold f_X12_law_30
    have q1 : (1273 : Int32) + nI k = nI (1273 + k) := by rw [show (1273 : Int32) = nI 1273 from rfl, nI_add]
    have q2 : (424 : Int32) + nI k = nI (424 + k) := by rw [show (424 : Int32) = nI 424 from rfl, nI_add]
    rw [show decide ((849 : Int32) ≤ nI k) = false from i_lit (a := 849) (by decide) hk, cond_false, q1, q2, gd_t (i_in (by omega) (by decide)), gd_t (i_in (by omega) (by decide)), wr_e, i_ix (by omega), i_ix (by omega), i_1]
    refine ⟨_, rfl, rfl, fun z hz => (mst_no hz).trans (h2 z hz), fun j hj => ?_, fun j hj => (mst_nk (by omega)).trans (h4 j (by omega))⟩
    show mst Z 216 (424 + k) (Z 216 (1273 + k)) 216 (424 + j) = _
    by_cases h : j = k
    · rw [h, mst_oo]
      exact h4 _ (by omega)
    · rw [mst_nk (by omega)]
      exact h3 j (by omega)
  · obtain ⟨a, Z⟩ := s
    obtain ⟨h1, h2, h3, h4⟩ := hs'
    dsimp only at h1 h2 h3 h4
    subst h1
    show ∃ M', f_X12_law_30 (nI l) (nI 849) Z = some (.inl (nI l, M')) ∧ _
    unfold f_X12_law_30
    rw [show decide ((849 : Int32) ≤ nI 849) = true from rfl, cond_true, wr_e, wr_e, show ix (2 : Int32) = 2 from rfl]
    refine ⟨_, rfl, fun z z1 z2 => by rw [mst_no z1, mst_no z2, h2 z z2], fun k hk => by rw [mst_nk hk, mst_no (by decide), h2 215 (by decide)], mst_oo _ _ _ _, by rw [mst_no (by decide), mst_oo], fun k k1 k2 => by rw [mst_no (by decide), mst_nk k2]; exact h4 k (by omega), fun k hk => by rw [mst_no (by decide), mst_nk (by omega)]; exact h3 k hk⟩
theorem cpL_1 {a b : Nat} {M : mM} (hd : a + 6 ≤ b ∨ b + 6 ≤ a) : cpL a b M a 1 = M b 1 := by
  unfold cpL cp1
  simp (disch := omega) only [mAc_ne, mst_no, mst_oo, mst_nk]
theorem Op_law (h : Rl n M) : OpT M f_X11_law f_X12_law tOne := by
  have h8 := h.h8
  obtain ⟨L, B, hT, t1, t2, t3, t4⟩ := h.tp.tx
  have hfin : ∀ K : mM, K 215 = M 215 → K 223 = M 223 → ∃ b X' v Y', f_X1_read 23 M = some (b, X') ∧ f_X12_readAll false K = some (v, Y') ∧ hC4 M X' ∧ ((∀ z, z ≠ 215 → z ≠ 216 → Y' z = K z) ∧ (Y' 215 6 = K 215 6 ∧ Y' 215 7 = K 215 7 ∧ Y' 215 13 = 0 ∧ Y' 215 0 = 0) ∧ ∀ k, k < 1273 → Y' 216 k = K 216 k) ∧ (b = true → ∃ l c, v = nI l ∧ l ≤ 12 ∧ X' 1 3 = -1 ∧ DL X' Y' l c) ∧ (b = false → v = -1 ∧ Y' 215 16 = X' 1 3) := fun K e5 e3 => by
    have fr : ∀ Y', hM4 (mst (usM K L) 215 20 0) Y' → (∀ z, z ≠ 215 → z ≠ 216 → Y' z = K z) ∧ (Y' 215 6 = K 215 6 ∧ Y' 215 7 = K 215 7 ∧ Y' 215 13 = 0 ∧ Y' 215 0 = 0) ∧ ∀ k, k < 1273 → Y' 216 k = K 216 k := fun Y' g => ⟨fun z z1 z2 => by rw [g.1 z z1 z2, mst_no z1, us_z z1], ⟨by rw [g.2.1 6 (by decide) (by decide) (by decide) (by decide), mst_nk (by decide), us_k (by decide)], by rw [g.2.1 7 (by decide) (by decide) (by decide) (by decide), mst_nk (by decide), us_k (by decide)], by rw [g.2.1 13 (by decide) (by decide) (by decide) (by decide), mst_nk (by decide), us_13], by rw [g.2.1 0 (by decide) (by decide) (by decide) (by decide), mst_nk (by decide), us_0]⟩, fun k hk => by rw [g.2.2 k hk, mst_no (by decide), us_z (by decide)]⟩
    rcases k_all hT (X := M) (Mo := K) t1 t3 (by rw [e5]; exact t2) (fun i hi => by rw [e3]; exact t4 i hi) with ⟨X', Y', l, c, g0, g1, g2, g3, g4, g5, g6⟩ | ⟨X', Y', g1, g2, w, g3, g4, g5, g6, g7⟩
    · exact ⟨true, X', _, Y', g1, g2, g5, fr Y' g6, fun _ => ⟨l, c, rfl, g0, g3, g4⟩, fun z => (by cases z)⟩
    · exact ⟨false, X', _, Y', g1, g2, g6, fr Y' g7, fun z => (by cases z), fun _ => ⟨rfl, by rw [g4, g5]⟩⟩
  obtain ⟨b, X3, v0, Y0, hr, -, hc4, -, hy0, -⟩ := hfin M rfl rfl
  have hC0 : f_X11_law M = bif b then b2 (f_X0_copyFrom 17 23 (mst X3 1 1 0)) (fun v4 M4 => b2 (f_X3_forget M4) (fun v5 M5 => some (.inl (M5 17 1), M5))) else some (.inr 0, mst X3 1 1 0) := by
    unfold f_X11_law
    rw [hr, b2_s, wr_e]
  cases b
  · rw [cond_false] at hC0
    have lo0 : ∀ z, z ≠ 1 → (z < 23 ∨ 27 < z) → mst X3 1 1 0 z = M z := fun z z1 z2 => by rw [mst_no z1, hc4.1 z z1 z2]
    refine ⟨_, _, hC0, fun Mo ho => ?_⟩
    have ho2 : ∀ z, 215 ≤ z → z ≠ 231 → Mo z = M z := fun z z1 z2 => by rw [ho z z2, lo0 z (by omega) (by omega)]
    obtain ⟨b', X', v, Y, hr', hg, -, ⟨f1, ⟨f2, f3, f4, f5⟩, f6⟩, -, hn⟩ := hfin Mo (ho2 215 (by decide) (by decide)) (ho2 223 (by decide) (by decide))
    obtain ⟨q1, q2⟩ := Prod.mk.inj (Option.some.inj (hr.symm.trans hr'))
    subst q1 q2
    obtain ⟨rfl, e16⟩ := hn rfl
    have hv : f_X12_law Mo = some (0, mst (mst Y 215 18 (X3 1 3)) 215 0 1) := by
      unfold f_X12_law
      rw [hg, b2_s, show decide ((0 : Int32) ≤ -1) = false from rfl, cond_false, e16]
      unfold f_X12_law_11 f_X12_law_18 f_X12_throwsIf
      rw [wr_e, show decide ((0 : Int32) ≤ -1) = false from rfl, cond_false, cond_true, wr_e, b2_s, cond_true]
    have w0 : ∀ z, z ≠ 215 → mst (mst Y 215 18 (X3 1 3)) 215 0 1 z = Y z := fun z hz => by rw [mst_no hz, mst_no hz]
    refine ⟨_, _, hv, ?_, ⟨n, ?_⟩, mst_oo _ _ _ _, by decide⟩
    · rw [w0 231 (by decide), f1 231 (by decide) (by decide)]
    · -- as a text that is used, the drafts aside
      have k18 : mst (mst Y 215 18 (X3 1 3)) 215 0 1 215 18 = X3 1 3 := by rw [mst_nk (by decide), mst_oo]
      have k13 : mst (mst Y 215 18 (X3 1 3)) 215 0 1 215 13 = 0 := by rw [mst_nk (by decide), mst_nk (by decide)]; exact f4
      have k6 : mst (mst Y 215 18 (X3 1 3)) 215 0 1 215 6 = M 215 6 := by rw [mst_nk (by decide), mst_nk (by decide), f2, ho2 215 (by decide) (by decide)]
      have k7 : mst (mst Y 215 18 (X3 1 3)) 215 0 1 215 7 = M 215 7 := by rw [mst_nk (by decide), mst_nk (by decide), f3, ho2 215 (by decide) (by decide)]
      generalize mst (mst Y 215 18 (X3 1 3)) 215 0 1 = M2 at w0 k18 k13 k6 k7 ⊢
      have lo : ∀ z, z < 215 → M2 z = mst X3 1 1 0 z := fun z hz => by rw [w0 z (by omega), f1 z (by omega) (by omega), ho z (by omega)]
      refine ((h.tx (R1 := M2 1) (v := X3 1 3) (by rw [lo 1 (by decide)]; exact mst_oo _ _ _ _) (by rw [lo 1 (by decide)]; exact mst_nk (by decide))).cm (M2 := rs M2 216 (M 216)) (fun z a b z1 z2 => ?_) (fun k hk => ?_) (fun k hk => ?_)).dft (fun z hz => (rs_ne hz).symm) (fun k hk => ?_)
      · rw [mst_no z2, mst_no z2]
        by_cases h6 : z = 216
        · rw [h6, rs_at, rs_ne (by decide)]
        · rw [rs_ne h6]
          by_cases h1 : z = 1
          · rw [h1, rs_at]
          · rw [rs_ne h1]
            by_cases h2 : z < 215
            · rw [lo z h2]
              refine lo0 z h1 ?_
              refine Classical.byContradiction fun hc => ?_
              have : Nat.ble 22 z = true ∧ Nat.ble z 28 = true := ⟨by rw [Nat.ble_eq]; omega, by rw [Nat.ble_eq]; omega⟩
              unfold sC at a
              rw [this.1, this.2, Bool.and_true, Bool.or_true, Bool.true_or, Bool.true_or] at a
              cases a
            · rw [w0 z z2, f1 z z2 h6]
              exact ho2 z (by omega) (fun e => by subst e; cases b)
      · rw [mst_no (by decide), mst_no (by decide), rs_ne (by decide), rs_ne (by decide), lo 35 (by decide), lo0 35 (by decide) (by decide)]
      · rw [rs_ne (show 215 ≠ 216 by decide)]
        rcases hk with rfl | rfl | rfl | rfl
        · rw [mst_nk (by decide), mst_nk (by decide), rs_ne (by decide)]; exact k6
        · rw [mst_nk (by decide), mst_nk (by decide), rs_ne (by decide)]; exact k7
        · rw [mst_nk (by decide), mst_oo]; exact k13
        · rw [mst_oo]; exact k18
      · rw [rs_at, w0 216 (by decide), f6 k hk, ho2 216 (by decide) (by decide)]
  · obtain ⟨l, c, -, hl, f0, hDL0⟩ := hy0 rfl
    have x23 : ∀ k, mst X3 1 1 0 23 k = X3 23 k := fun k => by rw [mst_no (by decide)]
    rw [cond_true, L_copy (show mLwB 17 = true by decide) (show mLwB 23 = true by decide) (by rw [x23, hDL0.1]; rfl), b2_s] at hC0
    unfold f_X3_forget at hC0
    rw [wr_e, b2_s, show mst (cpL 17 23 (mst X3 1 1 0)) 3 2 0 17 1 = nI l by rw [mst_no (by decide), cpL_1 (by decide), x23]; exact hDL0.2.1] at hC0
    refine ⟨_, _, hC0, fun Mo ho => ?_⟩
    have cz : ∀ z, z ≠ 1 → z ≠ 3 → (z < 17 ∨ 21 < z) → (z < 23 ∨ 27 < z) → mst (cpL 17 23 (mst X3 1 1 0)) 3 2 0 z = M z := fun z z1 z2 z3 z4 => by rw [mst_no z2, cpL_F (by omega), mst_no z1, hc4.1 z z1 z4]
    have c1 : mst (cpL 17 23 (mst X3 1 1 0)) 3 2 0 1 = upd (X3 1) 1 0 := by rw [mst_no (by decide), cpL_F (by decide)]; rfl
    have c31 : mst (cpL 17 23 (mst X3 1 1 0)) 3 2 0 3 1 = M 3 1 := by rw [mst_nk (by decide), cpL_F (by decide), mst_no (by decide), hc4.1 3 (by decide) (by decide)]
    have c32 : mst (cpL 17 23 (mst X3 1 1 0)) 3 2 0 3 2 = 0 := mst_oo _ _ _ _
    have c17 : ∀ z, 17 ≤ z → z ≤ 21 → mst (cpL 17 23 (mst X3 1 1 0)) 3 2 0 z = cpL 17 23 (mst X3 1 1 0) z := fun z z1 z2 => mst_no (by omega)
    generalize mst (cpL 17 23 (mst X3 1 1 0)) 3 2 0 = M1 at ho cz c1 c31 c32 c17 ⊢
    have ho2 : ∀ z, 215 ≤ z → z ≠ 231 → Mo z = M z := fun z z1 z2 => by rw [ho z z2, cz z (by omega) (by omega) (by omega) (by omega)]
    obtain ⟨b', X', v, Y, hr', hg, -, ⟨f1, ⟨f2, f3, f4, f5⟩, f6⟩, hy, -⟩ := hfin Mo (ho2 215 (by decide) (by decide)) (ho2 223 (by decide) (by decide))
    obtain ⟨q1, q2⟩ := Prod.mk.inj (Option.some.inj (hr.symm.trans hr'))
    subst q1 q2
    obtain ⟨l', c', rfl, hl', -, hDL⟩ := hy rfl
    have ell : nI l' = nI l := by rw [← hDL.2.1, hDL0.2.1]
    obtain ⟨M2, m1, m2, m3, m4, m5, m6, m7⟩ := M_takesLaw (Y := mst (mst Y 215 18 (-1)) 216 1273 (nI l')) (l := l')
    have hv : f_X12_law Mo = some (nI l', M2) := by
      unfold f_X12_law
      rw [hg, b2_s, i_0le (by omega), cond_true]
      unfold f_X12_law_11 f_X12_law_18 f_X12_throwsIf
      rw [wr_e, i_0le (by omega), cond_true, cond_false, b2_s, cond_false, wr_e, show ix (1273 : Int32) = 1273 from rfl, m1]
    have w0 : ∀ z, z ≠ 215 → z ≠ 216 → M2 z = Mo z := fun z z1 z2 => by rw [m2 z z1 z2, mst_no z2, mst_no z1, f1 z z1 z2]
    have wk : ∀ k, k ≠ 7 → k ≠ 18 → M2 215 k = Y 215 k := fun k k1 k2 => by rw [m3 k k1, mst_no (by decide), mst_nk k2]
    have w18 : M2 215 18 = -1 := by rw [m3 18 (by decide), mst_no (by decide), mst_oo]
    have v1 : ∀ k, k < 424 → k ≠ 2 → M2 216 k = M 216 k := fun k k1 k2 => by rw [m6 k k1 k2, mst_nk (by omega), mst_no (by decide), f6 k (by omega), ho2 216 (by decide) (by decide)]
    have v424 : M2 216 424 = nI l' := by
      have := m7 0 (by decide)
      rw [Nat.add_zero, Nat.add_zero, mst_oo] at this
      exact this
    have v2 : ∀ k, 424 < k → k < 1273 → M2 216 k = Y 216 (849 + k) := fun k k1 k2 => by
      have := m7 (k - 424) (by omega)
      rw [show 424 + (k - 424) = k by omega, show 1273 + (k - 424) = 849 + k by omega, mst_nk (by omega), mst_no (by decide)] at this
      exact this
    have lo : ∀ z, z < 215 → M2 z = M1 z := fun z hz => by rw [w0 z (by omega) (by omega), ho z (by omega)]
    have lo2 : ∀ z, z ≠ 1 → z ≠ 3 → (z < 17 ∨ 21 < z) → (z < 23 ∨ 27 < z) → z < 215 → M2 z = M z := fun z z1 z2 z3 z4 hz => by rw [lo z hz, cz z z1 z2 z3 z4]
    have hi2 : ∀ z, 216 < z → z ≠ 231 → M2 z = M z := fun z hz z1 => by rw [w0 z (by omega) (by omega), ho2 z (by omega) z1]
    refine ⟨_, _, hv, w0 231 (by decide) (by decide), ⟨n, ?_⟩, ell, ?_⟩
    · have eP : eqP (M 216) (M2 216) := fun p c hp hc => v1 _ (by omega) (by omega)
      have hts := h.ts.1
      refine ⟨h.wf.hd eP (v1 0 (by decide) (by decide)) ?_ ?_ ?_ ?_, by rw [eP.st]; exact h.st, ?_, ?_, ?_, ?_, ?_⟩
      · rw [v1 1 (by decide) (by decide)]; exact h.wf.2.2.2.2.1
      · rw [v1 3 (by decide) (by decide)]; exact h.wf.2.2.2.2.2.1
      · rw [v1 4 (by decide) (by decide)]; exact h.wf.2.2.2.2.2.2.1
      · rw [v1 5 (by decide) (by decide)]; exact h.wf.2.2.2.2.2.2.2
      · have e35 : ∀ z, 35 ≤ z → z ≤ 46 → M2 z = M z := fun z z1 z2 => lo2 z (by omega) (by omega) (by omega) (by omega) (by omega)
        have e35' := e35 35 (by decide) (by decide)
        refine h.ts.hd h8 eP (by rw [e35']) (by rw [e35']) (by rw [e35']) ?_ ?_ ?_ ?_ ?_ (by rw [e35']) (fun z z1 z2 => e35 z (by omega) (by omega)) (v1 6 (by decide) (by decide)) (fun k k1 k2 => v1 k k2 (by omega))
        · rw [e35', v1 3 (by decide) (by decide)]; exact hts.2.2.2.1
        · rw [e35', v1 4 (by decide) (by decide)]; exact hts.2.2.2.2.1
        · rw [e35', v1 5 (by decide) (by decide)]; exact hts.2.2.2.2.2.1
        · rw [e35', v1 7 (by decide) (by decide)]; exact hts.2.2.2.2.2.2.1
        · rw [e35', v1 1 (by decide) (by decide)]; exact hts.2.2.2.2.2.2.2.1
      · obtain ⟨d0, d1, d6, d20, e, T, hs, hi⟩ := hDL
        have hlw : LW (M2 216) (mst X3 1 1 0) 23 := Or.inr ⟨by rw [x23]; exact d0, m5, l', hl', by rw [x23]; exact d1, v424, e, T, fun i hil => (hi i hil).cg (by omega) (fun k k1 k2 => v2 k k1 k2) fun z z1 z2 => mst_no (by omega)⟩
        exact (hlw.cp (a := 17) (by decide)).rf fun j hj => by rw [lo _ (by omega), c17 _ (by omega) (by omega)]
      · refine ⟨0, Nat.zero_le _, by rw [lo 1 (by decide), c1]; rfl, by rw [wk 13 (by decide) (by decide), f4]; rfl, ?_, fun i hi => absurd hi (Nat.not_lt_zero i)⟩
        rw [lo 1 (by decide), c1, w18, upd_ne (by decide)]
        exact f0
      · refine h.im.mv ?_ ?_ (hi2 217 (by decide) (by decide)) (fun z z1 z2 => lo2 z (by omega) (by omega) (by omega) (by omega) (by omega)) (fun z z1 z2 => lo2 z (by omega) (by omega) (by omega) (by omega) (by omega))
        · rw [lo2 0 (by decide) (by decide) (by decide) (by decide) (by decide)]
        · rw [wk 6 (by decide) (by decide), f2, ho2 215 (by decide) (by decide)]
      · obtain ⟨x, c, p1, p2, p3, p4, p5, p6⟩ := h.ps
        exact ⟨x, 0, p1, Nat.zero_le _, by rw [lo 3 (by decide), c31]; exact p3, by rw [lo 3 (by decide), c32]; rfl, by rw [m4]; rfl, fun j hj => absurd hj (Nat.not_lt_zero j)⟩
    · rw [wk 0 (by decide) (by decide)]; exact f5
end
