/-! an op is answered alike; undo, image, back, seed, need -/
def OpA {α : Type} (M : mM) (fc fm : mM → Option (α × mM)) : Prop := ∃ v M1 M2, fc M = some (v, M1) ∧ fm M1 = some (v, M2) ∧ ∃ n', Rl n' M2
def OpR {α : Type} (M : mM) (fc : mM → Option α) (fm : mM → Option (α × mM)) : Prop := ∃ v M2, fc M = some v ∧ fm M = some (v, M2) ∧ ∃ n', Rl n' M2
/-- what the reference says of what came out: E becomes t E (0: that is not caught) -/
def Rsp (t : Nat → Int32) (r : Int32 ⊕ Nat) (v th : Int32) : Prop := match r with
  | .inl x => v = x ∧ th = 0
  | .inr E => th = t E ∧ t E ≠ 0
/-- one that throws -/
def OpT (M : mM) (fc : mM → Option ((Int32 ⊕ Nat) × mM)) (fm : mM → Option (Int32 × mM)) (t : Nat → Int32) : Prop := ∃ r M1, fc M = some (r, M1) ∧ (∀ M', (∀ z, z ≠ 231 → M' z = M1 z) → ∃ v M2, fm M' = some (v, M2) ∧ M2 231 = M' 231 ∧ (∃ n', Rl n' M2) ∧ Rsp t r v (M2 215 0))
theorem Tp.mv {M M' : mM} (h : Tp M) (e1 : M' 1 = M 1) (e2 : M' 2 = M 2) (e3 : M' 223 = M 223) (e13 : M' 215 13 = M 215 13) (e18 : M' 215 18 = M 215 18) : Tp M' := by
  obtain ⟨L, b1, b2, b3, b4, b5⟩ := h
  exact ⟨L, b1, by rw [e1]; exact b2, by rw [e13]; exact b3, by rw [e1, e18]; exact b4, fun i hi => by rw [e2, e3]; exact b5 i hi⟩
theorem Im.mv {M M' : mM} (h : Im M) (e0 : M' 0 11 = M 0 11) (e6 : M' 215 6 = M 215 6) (e7 : M' 217 = M 217) (el : ∀ z, 29 ≤ z → z ≤ 33 → M' z = M z) (et : ∀ z, 59 ≤ z → z ≤ 69 → M' z = M z) : Im M' := by
  unfold Im
  rw [e0, e6, e7]
  rcases h with h | ⟨g1, g2, n', g3, g4, g5, g6⟩
  · exact Or.inl h
  · exact Or.inr ⟨g1, g2, n', g3, g4, g5.mv g3.2.1 (eqT.rf fun j hj _ => et _ (by omega) (by omega)), g6.rf fun j hj => el _ (by omega) (by omega)⟩
section
variable {n : Nat} {M : mM}
theorem Rl.lw (h : Rl n M) : LW (M 216) M 17 := h.2.2.2.1
theorem Rl.im (h : Rl n M) : Im M := h.2.2.2.2.2.1
theorem Rl.ps (h : Rl n M) : Ps M := h.2.2.2.2.2.2
theorem pW_0 {c k : Nat} : pW M (c + 1) 0 k = M 220 (424 * c + k) := by
  unfold pW
  congr 1
theorem Op_undo (h : Rl n M) : OpA M f_X11_undo f_X12_undo := by
  obtain ⟨x, c, hC, hM⟩ := h.ps.out
  match c, hC, hM with
  | 0, hC, hM =>
    refine ⟨false, M, mst M 215 0 0, ?_, ?_, n, h.mq (RQ.st215 (by decide))⟩
    · unfold f_X11_undo
      rw [C_recall0 hC]
      rfl
    · unfold f_X12_undo
      rw [wr_e, mst_nk (show 7 ≠ 0 by decide), hM.1]
      rfl
  | c + 1, hC, hM =>
    obtain ⟨n', M1, e1, g1, g2, g3, g4, g5, g6⟩ := C_recall hC
    have hc : c < 12 := by have := hC.2.1; omega
    have el : ∀ z, 47 ≤ z → (z < 71 ∨ 215 ≤ z) → M1 z = M z := fun z h1 _ => g6 z (by omega) (by omega)
    refine ⟨true, M1, rs (mst (mst M1 215 0 0) 215 7 (nI c)) 216 (va_cpy (M 220) (M 216) (424 * c) 0 424), ?_, ?_, n', ?_⟩
    · unfold f_X11_undo
      rw [e1]
      rfl
    · unfold f_X12_undo
      have e7 : mst M1 215 0 0 215 7 = nI (c + 1) := by rw [mst_nk (by decide), g6 215 (by decide) (by decide)]; exact hM.1
      rw [wr_e, e7, dn, decide_eq_false (nI_ne0 (by omega) (by omega)), Bool.not_false, nI_pred]
      show f_X12_undo_l16 0 (mst (mst M1 215 0 0) 215 7 (nI c)) = _
      unfold f_X12_undo_l16
      rw [wh_cpG (M := mst (mst M1 215 0 0) 215 7 (nI c)) (p := 220) (q := 216) (off := 0) (src := 424 * c) (N := 424) (fun M' => (true, M')) (by decide) (by decide) (by decide) (fun k hk M' e => ?_) (fun M' e => rfl)]
      · rw [mst_no (by decide), mst_no (by decide), mst_no (by decide), mst_no (by decide), el 220 (by decide) (by decide), el 216 (by decide) (by decide)]
      · show f_X12_undo_16 (nI k) M' = _
        unfold f_X12_undo_16
        have q : (424 : Int32) * (M' 215 7) + nI k = nI (424 * c + k) := by
          rw [e, mst_oo, show (424 : Int32) = nI 424 from rfl, pk_mul, nI_add]
        rw [q, show (424 : Int32) = nI 424 from rfl, bif_f (i_lit (by decide) hk), gd_t (i_in (by omega) (by decide)), gd_t (i_in (by omega) (by decide)), i_ix (by omega), i_ix (by omega), i_1, Nat.zero_add]
        rfl
    · have eW : eqW (pW M (c + 1) 0) (va_cpy (M 220) (M 216) (424 * c) 0 424) := fun k hk => by
        rw [pk_cpy_in (Nat.zero_le _) (by omega), pW_0]
        congr 1
      have eR : ∀ z, z ≠ 215 → z ≠ 216 → rs (mst (mst M1 215 0 0) 215 7 (nI c)) 216 (va_cpy (M 220) (M 216) (424 * c) 0 424) z = M1 z := fun z h1 h2 => by rw [rs_ne h2, mst_no h1, mst_no h1]
      have e5 : ∀ k, k ≠ 0 → k ≠ 7 → rs (mst (mst M1 215 0 0) 215 7 (nI c)) 216 (va_cpy (M 220) (M 216) (424 * c) 0 424) 215 k = M 215 k := fun k h1 h2 => by rw [rs_ne (by decide), mst_nk h2, mst_nk h1, g6 215 (by decide) (by decide)]
      have e216 := rs_at (mst (mst M1 215 0 0) 215 7 (nI c)) 216 (va_cpy (M 220) (M 216) (424 * c) 0 424)
      have e7 : rs (mst (mst M1 215 0 0) 215 7 (nI c)) 216 (va_cpy (M 220) (M 216) (424 * c) 0 424) 215 7 = nI c := by rw [rs_ne (by decide), mst_oo]
      generalize rs (mst (mst M1 215 0 0) 215 7 (nI c)) 216 (va_cpy (M 220) (M 216) (424 * c) 0 424) = M2 at eR e5 e216 e7 ⊢
      refine ⟨?_, ?_, ?_, ?_, ?_, ?_, ?_⟩
      · rw [e216]; exact g1.eq eW
      · rw [e216, ← eW.st]; exact g2
      · rw [e216]; exact (g3.eq eW g1.2.1).in216 g1.2.1 fun z h1 h2 => eR z (by omega) (by omega)
      · rw [e216]
        refine (h.lw.eq2 ?_ fun k h1 _ => pk_cpy_out (by omega)).rf fun j hj => ?_
        · rw [← eW 2 (by decide), g4]
        · rw [eR _ (by omega) (by omega), g6 _ (by omega) (by omega)]
      · exact h.tp.mv (by rw [eR _ (by decide) (by decide), g6 _ (by decide) (by decide)]) (by rw [eR _ (by decide) (by decide), g6 _ (by decide) (by decide)]) (by rw [eR _ (by decide) (by decide), g6 _ (by decide) (by decide)]) (e5 _ (by decide) (by decide)) (e5 _ (by decide) (by decide))
      · exact h.im.mv (by rw [eR _ (by decide) (by decide), g6 _ (by decide) (by decide)]) (e5 _ (by decide) (by decide)) (by rw [eR _ (by decide) (by decide), g6 _ (by decide) (by decide)]) (fun z h1 h2 => by rw [eR _ (by omega) (by omega), g6 _ (by omega) (by omega)]) (fun z h1 h2 => by rw [eR _ (by omega) (by omega), g6 _ (by omega) (by omega)])
      · refine Ps.mk (Mm := M2) (V := fun j => pW M (c + 1) (j + 1)) g5 ⟨e7, fun j hj k hk => ?_⟩ (fun z hz => eR z (by omega) (by omega)) rfl rfl ?_
        · unfold pW
          rw [eR 220 (by decide) (by decide), g6 220 (by decide) (by decide)]
          exact congrArg (M 220) (by omega)
        · rw [e216, ← eW 2 (by decide), g4]
end
