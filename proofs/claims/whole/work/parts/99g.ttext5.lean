/-! texts of the tower: line by line to the end -/
theorem wh_sS {σ ρ : Type} {b : σ → Option (ρ ⊕ σ)} {n : Nat} {s s' : σ} (h : b s = some (.inr s')) : wh (n + 1) b s = wh n b s' := by
  show (match b s with | none => none | some (.inl r) => some r | some (.inr s') => wh n b s') = _
  rw [h]
theorem wh_eE {σ ρ : Type} {b : σ → Option (ρ ⊕ σ)} {n : Nat} {s : σ} {r : Option ρ} (h : b s = b1 r (fun r => some (.inl r))) : wh (n + 1) b s = r := by
  show (match b s with | none => none | some (.inl r) => some r | some (.inr s') => wh n b s') = _
  rw [h]
  cases r <;> rfl
theorem M_semi {L : Nat} {B : Nat → Nat} (hT : txt L B) {Y : mM} {p : Nat} (h : tM Y L B p) (hp : p ≤ L) : f_X12_isAt (59 : Int32) (59 : Int32) Y = some (sgB L B p 59) := by
  rw [show (59 : Int32) = nI 59 from rfl, M_isAt hT h hp (by decide) (by decide) (by decide)]
  unfold sgB
  by_cases e : B p = 59
  · rw [e]; rfl
  · rw [decide_eq_false e]
    by_cases c1 : 59 ≤ B p
    · rw [decide_eq_false (show ¬ B p ≤ 59 by omega), Bool.and_false]
    · rw [decide_eq_false c1, Bool.false_and]
section
variable {L : Nat} {B : Nat → Nat}
def RsL (L : Nat) (B : Nat → Nat) (X Y : mM) (c : Option (Bool × mM)) (m : Option (Int32 × mM)) : Prop :=
  (∃ X' Y' n' k, k ≤ 14 ∧ c = f_X10_read_39 47 0 X' ∧ m = some (nI k, Y') ∧ X' 1 1 = nI L ∧ X' 1 3 = -1 ∧ Y' 215 15 = nI L ∧ DT n' X' Y' ∧ hC1 X X' ∧ hM1 Y Y') ∨
  (∃ X' Y' w, c = some (false, X') ∧ m = some (-1, Y') ∧ w ≤ L ∧ X' 1 3 = nI w ∧ Y' 215 16 = nI w ∧ hC1 X X' ∧ hM1 Y Y')
theorem RsL.mv {X X0 Y Y0 : mM} {c : Option (Bool × mM)} {m : Option (Int32 × mM)} (h : RsL L B X Y c m) (f : hC1 X0 X) (g : hM1 Y0 Y) : RsL L B X0 Y0 c m := by
  rcases h with ⟨X', Y', n', k, h0, h1, h2, h3, h4, h5, h6, h7, h8⟩ | ⟨X', Y', w, h1, h2, h3, h4, h5, h6, h7⟩
  · exact Or.inl ⟨X', Y', n', k, h0, h1, h2, h3, h4, h5, h6, f.tr h7, g.tr h8⟩
  · exact Or.inr ⟨X', Y', w, h1, h2, h3, h4, h5, f.tr h6, g.tr h7⟩
theorem t_loop (hT : txt L B) : ∀ (j fc fm n : Nat) (X Y : mM) (p : Nat), j ≤ 14 → j + 3 ≤ fc → j + 3 ≤ fm → p ≤ L → tC X L B (sB L B p) → tM Y L B p → DT n X Y → RsL L B X Y (wh fc (fun s : Int32 × Int32 × mM => f_X10_read_11 47 s.1 s.2.1 s.2.2) (1, nI (14 - j), X)) (wh fm (fun s : Int32 × mM => f_X12_readAll_16 true s.1 s.2) (nI (14 - j), Y)) := by
  intro j
  induction j with
  | zero =>
    intro fc fm n X Y p hj hfc hfm hp hX hY hD
    obtain ⟨fc, rfl⟩ : ∃ y, fc = y + 1 := ⟨fc - 1, by omega⟩
    obtain ⟨fm, rfl⟩ : ∃ y, fm = y + 1 := ⟨fm - 1, by omega⟩
    obtain ⟨s1, s2⟩ := sB_le (B := B) hp
    obtain ⟨Y1, y1, y2, y3, y4⟩ := M_letters hT hY hp
    right
    refine ⟨mst X 1 3 (nI (sB L B p)), Y1, sB L B p, wh_eE ?_, wh_eE (r := some (-1, Y1)) ?_, s2, mst_oo _ _ _ _, y3, (fC.st (by decide)).g, y4.g⟩
    · show f_X10_read_11 47 1 (nI 14) X = _
      unfold f_X10_read_11
      rw [show decide ((14 : Int32) ≤ nI 14) = true from rfl, cond_true]
      unfold f_X10_read_39
      rw [show decide ((1 : Int32) = 0) = false from rfl, cond_false, hX.2.2.1, C_wrong hX.2.2.2, b2_s]
    · show f_X12_readAll_16 true (nI 14) Y = _
      unfold f_X12_readAll_16 f_X12_readLine f_X12_readLine_8
      rw [y1, b2_s, cond_true, show decide ((14 : Int32) ≤ nI 14) = true from rfl, cond_true, b2_s, cond_false]
      rfl
  | succ j ih =>
    intro fc fm n X Y p hj hfc hfm hp hX hY hD
    obtain ⟨fc, rfl⟩ : ∃ y, fc = y + 1 := ⟨fc - 1, by omega⟩
    obtain ⟨fm, rfl⟩ : ∃ y, fm = y + 1 := ⟨fm - 1, by omega⟩
    obtain ⟨l, hl⟩ : ∃ l, l = 14 - (j + 1) := ⟨_, rfl⟩
    rw [← hl]
    have hlj : 14 - j = l + 1 := by omega
    have hC0 : f_X10_read_11 47 1 (nI l) X = b2 (f_X10_readLine 47 X) (fun v15 M15 => bif v15 then (b1 (f_X7_ended M15) (fun v17 => bif v17 then (f_X10_read_28 47 (nI l) false M15) else (f_X10_read_28 47 (nI l) true M15))) else (some (.inl (false, M15)))) := by
      unfold f_X10_read_11
      rw [show decide ((14 : Int32) ≤ nI l) = false from i_lit (a := 14) (by decide) (by omega), cond_false, show decide ((1 : Int32) = 0) = false from rfl, cond_false]
    rcases t_line hT (l := l) (by omega) hp hX hY hD with ⟨X1, Y1, n1, p1, c1, c2, c3, c4, c5, c6, c7, c8⟩ | ⟨X1, Y1, w, c1, c2, c3, c4, c5, c6, c7⟩
    · obtain ⟨s1, s2⟩ := sB_le (B := B) c3
      obtain ⟨Y2, b1', b2', b3', b4'⟩ := M_blanks hT c5 c3
      have hend : f_X7_ended X1 = some (!decide (sB L B p1 < L)) := by
        have := hT.1
        unfold f_X7_ended
        rw [c4.2.2.1, c4.1, i_lt (by omega) (by omega)]
        cases decide (sB L B p1 < L) <;> rfl
      have hC1' : f_X10_read_11 47 1 (nI l) X = bif decide (sB L B p1 < L) then f_X10_read_28 47 (nI l) true X1 else f_X10_read_28 47 (nI l) false X1 := by
        rw [hC0, c1, b2_s, cond_true, hend, b1_s]
        cases decide (sB L B p1 < L) <;> rfl
      have hM0 : f_X12_readAll_16 true (nI l) Y = bif decide (sB L B p1 < L) then (bif sgB L B (sB L B p1) 59 then some (.inr (nI (l + 1), mst Y2 215 14 (nI (sB L B p1 + 1)))) else some (.inl (-1, Y2))) else some (.inl (nI (l + 1), Y2)) := by
        have := hT.1
        unfold f_X12_readAll_16
        rw [c2, b2_s, cond_true, b1', b2_s, show Y2 215 14 = nI (sB L B p1) from b2'.2.2, b2'.1, dn, i_eq (by omega) (by omega), M_semi hT b2' s2, b1_s, i_1, i_1]
        by_cases e : sB L B p1 < L
        · rw [decide_eq_false (show ¬ sB L B p1 = L by omega), decide_eq_true e, Bool.not_false, cond_true, cond_true, wr_e]
        · rw [decide_eq_true (show sB L B p1 = L by omega), decide_eq_false e, Bool.not_true, cond_false, cond_false]
      by_cases e : sB L B p1 < L
      · rw [decide_eq_true e, cond_true] at hC1' hM0
        obtain ⟨m1, m2⟩ := C_mustSign hT c4 s2 (c := 59) (by decide)
        have h28 : f_X10_read_28 47 (nI l) true X1 = b2 (f_X7_mustSign (59 : Int32) X1) (fun v2 M2 => bif v2 then (some (.inr (mB true, nI l + (1 : Int32), M2))) else (some (.inl (false, M2)))) := rfl
        rw [h28] at hC1'
        cases cs : sgB L B (sB L B p1) 59
        · right
          rw [show f_X7_mustSign (59 : Int32) X1 = _ from m2 cs, b2_s, cond_false] at hC1'
          rw [cs, cond_false] at hM0
          refine ⟨_, Y2, sB L B p1, wh_eE (r := some (false, mst X1 1 3 (nI (sB L B p1)))) ?_, wh_eE (r := some (-1, Y2)) ?_, s2, mst_oo _ _ _ _, b3', c7.tr (fC.st (by decide)).g, c8.tr b4'.g⟩
          · exact hC1'
          · exact hM0
        · obtain ⟨l1, X2, x1, x2, x3⟩ := m1 cs
          rw [show f_X7_mustSign (59 : Int32) X1 = _ from x1, b2_s, cond_true, i_1] at hC1'
          rw [cs, cond_true] at hM0
          rw [wh_sS (b := fun s : Int32 × Int32 × mM => f_X10_read_11 47 s.1 s.2.1 s.2.2) (s := (1, nI l, X)) (s' := (1, nI (l + 1), X2)) hC1', wh_sS (b := fun s : Int32 × mM => f_X12_readAll_16 true s.1 s.2) (s := (nI l, Y)) (s' := (nI (l + 1), mst Y2 215 14 (nI (sB L B p1 + 1)))) hM0, ← hlj]
          have hD2 : DT n1 X2 (mst Y2 215 14 (nI (sB L B p1 + 1))) := ((c6.fC x3).fM b4').fM (fM.st (Or.inl rfl))
          exact (ih fc fm n1 X2 _ (sB L B p1 + 1) (by omega) (by omega) (by omega) l1 x2 (b2'.pt _) hD2).mv (c7.tr x3.g) (c8.tr (b4'.tr (fM.st (Or.inl rfl))).g)
      · rw [decide_eq_false e, cond_false] at hC1' hM0
        left
        have h28 : f_X10_read_28 47 (nI l) false X1 = some (.inr (mB false, nI l + (1 : Int32), X1)) := rfl
        rw [h28, i_1] at hC1'
        obtain ⟨fc, rfl⟩ : ∃ y, fc = y + 1 := ⟨fc - 1, by omega⟩
        refine ⟨X1, Y2, n1, l + 1, by omega, ?_, wh_eE (r := some (nI (l + 1), Y2)) hM0, c4.1, c4.2.2.2, b2'.1, c6.fM b4', c7, c8.tr b4'.g⟩
        rw [wh_sS (b := fun s : Int32 × Int32 × mM => f_X10_read_11 47 s.1 s.2.1 s.2.2) (s := (1, nI l, X)) (s' := (0, nI (l + 1), X1)) hC1']
        refine wh_eE ?_
        show f_X10_read_11 47 0 (nI (l + 1)) X1 = _
        unfold f_X10_read_11
        rw [show decide ((0 : Int32) = 0) = true from rfl, cond_true]
        cases decide ((14 : Int32) ≤ nI (l + 1)) <;> rfl
    · right
      refine ⟨X1, Y1, w, wh_eE (r := some (false, X1)) ?_, wh_eE (r := some (-1, Y1)) ?_, c3, c4, c5, c6, c7⟩
      · show f_X10_read_11 47 1 (nI l) X = _
        rw [hC0, c1, b2_s, cond_false]
        rfl
      · show f_X12_readAll_16 true (nI l) Y = _
        unfold f_X12_readAll_16
        rw [c2, b2_s, cond_false]
        rfl
/-- from the beginning -/
theorem t_all (hT : txt L B) {X Mo : mM} {n : Nat} (h1 : X 1 1 = nI L) (h2 : ∀ i, i < L → X 2 i = nI (B i)) (hD : DT n X Mo) (g13 : Mo 215 13 = nI L) (g223 : ∀ i, i < L → Mo 223 i = sgn8 (B i)) : RsL L B X (mst (usM Mo L) 215 20 0) (f_X10_read 47 X) (f_X12_readAll true Mo) := by
  have hL := hT.1
  generalize hY : mst (usM Mo L) 215 20 0 = Y
  have Y216 : Y 216 = Mo 216 := by rw [← hY, mst_no (by decide), us_z (by decide)]
  have tY : tM Y L B 0 := ⟨by rw [← hY, mst_nk (by decide)]; exact us_15, fun i hi => by rw [← hY, mst_no (by decide), us_z (by decide)]; exact g223 i hi, by rw [← hY, mst_nk (by decide)]; exact us_14⟩
  have hM0 : f_X12_readAll true Mo = b2 (f_X12_blanks Y) (fun v10 M10 => bif decide (¬ (M10 215 14) = (M10 215 15)) then (f_X12_readAll_l16 true (0 : Int32) M10) else (some ((0 : Int32), M10))) := by
    unfold f_X12_readAll
    rw [m_uses g13, b2_s, wr_e, hY]
  obtain ⟨Y1, y1, y2, y3, y4⟩ := M_blanks hT tY (Nat.zero_le L)
  obtain ⟨s1, s2⟩ := sB_le (B := B) (Nat.zero_le L)
  have hX3 : tC (mst (mst X 1 3 (-1)) 1 2 (nI (sB L B 0))) L B (sB L B 0) := ⟨by rw [mst_nk (by decide), mst_nk (by decide)]; exact h1, fun i hi => by rw [mst_no (by decide), mst_no (by decide)]; exact h2 i hi, mst_oo _ _ _ _, by rw [mst_nk (by decide), mst_oo]⟩
  have hmv : f_X7_moveTo (0 : Int32) (mst X 1 3 (-1)) = some ((), mst (mst X 1 3 (-1)) 1 2 (nI (sB L B 0))) := C_move3 hT (p := 0) ((mst_nk (by decide)).trans h1) (fun i hi => by rw [mst_no (by decide)]; exact h2 i hi) (Nat.zero_le L)
  have fX : fC X (mst (mst X 1 3 (-1)) 1 2 (nI (sB L B 0))) := (fC.st (by decide)).tr (fC.st (by decide))
  generalize mst (mst X 1 3 (-1)) 1 2 (nI (sB L B 0)) = X1 at hX3 hmv fX
  have hend : f_X7_ended X1 = some (!decide (sB L B 0 < L)) := by
    unfold f_X7_ended
    rw [hX3.2.2.1, hX3.1, i_lt (by omega) (by omega)]
    cases decide (sB L B 0 < L) <;> rfl
  have hD1 : DT n X1 Y := by
    have := hD.fC fX
    unfold DT at this ⊢
    rw [Y216]
    exact this
  have hC0 : f_X10_read 47 X = bif decide (sB L B 0 < L) then f_X10_read_l11 47 1 0 X1 else f_X10_read_l11 47 0 0 X1 := by
    unfold f_X10_read f_X7_rewind
    rw [gd_t T47, wr_e, hmv, b2_s, b2_s, hend, b1_s]
    cases decide (sB L B 0 < L) <;> rfl
  rw [hM0, y1, b2_s, show Y1 215 14 = nI (sB L B 0) from y2.2.2, y2.1, dn, i_eq (by omega) (by omega), hC0]
  by_cases e : sB L B 0 < L
  · rw [decide_eq_true e, cond_true, decide_eq_false (show ¬ sB L B 0 = L by omega), Bool.not_false, cond_true]
    have ey : sB L B (sB L B 0) = sB L B 0 := sk_sk 0
    exact (t_loop hT 14 100000 100000 n X1 Y1 (sB L B 0) (Nat.le_refl _) (by decide) (by decide) s2 (by rw [ey]; exact hX3) y2 (hD1.fM y4)).mv fX.g y4.g
  · rw [decide_eq_false e, cond_false, decide_eq_true (show sB L B 0 = L by omega), Bool.not_true, cond_false]
    left
    refine ⟨X1, Y1, n, 0, by decide, ?_, rfl, hX3.1, hX3.2.2.2, y2.1, hD1.fM y4, fX.g, y4.g⟩
    unfold f_X10_read_l11
    refine wh_eE (n := 99999) ?_
    show f_X10_read_11 47 0 0 X1 = _
    rfl
end
