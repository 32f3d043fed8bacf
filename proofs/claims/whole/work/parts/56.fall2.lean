/-! a FALL, by both -/
section
variable {n : Nat} {W : Nat → Int32}
theorem LR.cg {W W' : Nat → Int32} {M M' : mM} {g : Nat} (h : LR W M g) (w6 : W' 6 = W 6) (wl : ∀ k, 64 ≤ k → k < 424 → W' k = W k) (e1 : M' g 1 = M g 1) (e2 : M' g 2 = M g 2) (e3 : M' (g + 1) = M (g + 1)) : LR W' M' g := by
  obtain ⟨x, c, h1, h2, h3, h4, h5, h6⟩ := h
  exact ⟨x, c, h1, h2, by rw [e1]; exact h3, by rw [e2]; exact h4, by rw [w6]; exact h5, fun a ha w hw => by rw [wl _ (by omega) (by omega), e3]; exact h6 a ha w hw⟩
theorem TR.lr {M : mM} {o : Nat} (h : TR n W M o) : LR W M (o + 9) := h.2.2.2.2.2.2.2.2.2.2
theorem TR.mk {M' : mM} {o : Nat} (e0 : M' o 0 = nI n) (e1 : M' o 1 = upS n W) (e2 : M' o 2 = slS n W) (e3 : M' o 3 = W 3) (e4 : M' o 4 = W 4) (e5 : M' o 5 = W 5) (e6 : M' o 6 = W 7) (e7 : M' o 7 = W 1)
    (er : ∀ p, p < n → M' (o + 1) p = pv W p 0 ∧ M' (o + 2) p = pv W p 1 ∧ M' (o + 3) p = pv W p 2 ∧ M' (o + 4) p = pv W p 4 ∧ M' (o + 6) p = pv W p 6 ∧ (upB W p = true → M' (o + 5) p = pv W p 5))
    (ez : ∀ p, n ≤ p → p < 8 → M' (o + 3) p = 0 ∧ M' (o + 4) p = 0 ∧ M' (o + 6) p = 0) (el : LR W M' (o + 9)) : TR n W M' o := ⟨e0, e1, e2, e3, e4, e5, e6, e7, er, ez, el⟩
/-- those who give way, those who hang, as the class has them -/
theorem TS.yield {M : mM} {o : Nat} (h : TS n W M o) (ho : mTwB o = true) : f_X9_yielding o (hoS n W) (o + 7) M = some (gwS n W (fun _ => 0)) := by
  rw [T_yield ho (mTw_a8 ho).1]
  refine congrArg some (set_congr fun p hp => ?_)
  unfold tYld
  rw [hs_hos hp]
  by_cases hpn : p < n
  · rw [decide_eq_true hpn, Bool.true_and, Bool.true_and, h.2.2 p hp, (h.1.pp hpn).2.2.1]
  · rw [decide_eq_false hpn]; rfl
theorem TR.hang {M : mM} {o : Nat} (h : TR n W M o) (ho : mTwB o = true) : f_X9_hanging o (M o 1) (M o 2) M = some (hgS n W) := by
  have h1 : M o 1 = upS n W := h.2.1
  rw [T_hang ho, h.ho, h1, h.hg sub_rf, hgG_r]
/-- the rows that come down in a round, by the class -/
theorem C_fl_in (hw : WF n W) {M : mM} {o r f : Nat} {A : Nat → Int32} (h : TS n W M o) (ho : mTwB o = true) (hf : f + cntK (dnS n W) 8 ≤ 8) (hA : ∀ i, i < f → M (o + 11) i = A i) :
    ∃ M1, f_X9_collapse_l34 o (nI r) (gwS n W (fun _ => 0)) (dnS n W) (nI f) 0 M = some (.inr (nI (f + cntK (dnS n W) 8), nI r + 1, M1)) ∧ TR n (rndW n W (nI r)) M1 o ∧ (∀ i, i < f + cntK (dnS n W) 8 → M1 (o + 11) i = ordK A f (dnS n W) 8 i) ∧ M1 o 19 = nI r ∧ ∀ z, (z < o ∨ o + 11 < z) → M1 z = M z := by
  have h8 := hw.2.1
  have hG := mTwG ho
  have e8 : flK W (gwS n W (fun _ => 0)) (dnS n W) (rCar n W (fun _ => 0)) (nI r) 8 = flW n W (nI r) := fl_n (fun p h1 h2 => dn_n h1 h2) 8 h8 (Nat.le_refl 8)
  have sh11 : mSh (o + 11) = (10, 8) := mTw11 ho
  unfold f_X9_collapse_l34
  have key := wh_P (b := fun s : Int32 × Int32 × mM => f_X9_collapse_34 o s.1 (nI r) (gwS n W (fun _ => 0)) (dnS n W) s.2.1 s.2.2) (fun k q => q.1 = nI (f + cntK (dnS n W) k) ∧ q.2.1 = nI k ∧ LR (flK W (gwS n W (fun _ => 0)) (dnS n W) (rCar n W (fun _ => 0)) (nI r) k) q.2.2 (o + 9) ∧ (∀ i, i < f + cntK (dnS n W) k → q.2.2 (o + 11) i = ordK A f (dnS n W) k i) ∧ ∀ z, z ≠ o + 9 → z ≠ o + 10 → z ≠ o + 11 → q.2.2 z = M z)
    (fun u : (Int32 × mM) ⊕ (Int32 × Int32 × mM) => ∃ M1, u = .inr (nI (f + cntK (dnS n W) 8), nI r + 1, M1) ∧ TR n (rndW n W (nI r)) M1 o ∧ (∀ i, i < f + cntK (dnS n W) 8 → M1 (o + 11) i = ordK A f (dnS n W) 8 i) ∧ M1 o 19 = nI r ∧ ∀ z, (z < o ∨ o + 11 < z) → M1 z = M z) 8 100000 (nI f, 0, M) ⟨rfl, rfl, h.1.lr, hA, fun _ _ _ _ => rfl⟩ (fun k hk q hq => ?_) (fun q hq => ?_) (by decide)
  · obtain ⟨u, e1, M1, rfl, e3⟩ := key
    exact ⟨M1, e1, e3⟩
  · obtain ⟨q1, q2, M'⟩ := q
    obtain ⟨rfl, rfl, g3, g4, g5⟩ := hq
    dsimp only at g3 g4 g5
    show ∃ s', f_X9_collapse_34 o (nI (f + cntK (dnS n W) k)) (nI r) (gwS n W (fun _ => 0)) (dnS n W) (nI k) M' = some (.inr s') ∧ _
    unfold f_X9_collapse_34
    rw [bif_f (i_8 hk), has_hs (by omega), has_hs (by omega), i_1]
    cases hd : hs (dnS n W) k
    · rw [cond_false]
      refine ⟨_, rfl, ?_, rfl, ?_, ?_, g5⟩
      · rw [cntK_s, hd]; rfl
      · rw [flK_s, hd]; exact g3
      · rw [ordK_s, cntK_s, hd]; exact g4
    · have hlt := cntK_lt hk hd
      have hMo : M' o = M o := g5 o (by omega) (by omega) (by omega)
      have hM7 : M' (o + 7) = M (o + 7) := g5 _ (by omega) (by omega) (by omega)
      have e4 : M o 4 = flK W (gwS n W (fun _ => 0)) (dnS n W) (rCar n W (fun _ => 0)) (nI r) k 4 := by rw [fl_h (by decide) (by decide) k (by omega)]; exact h.1.2.2.2.2.1
      have e3 : M o 3 = flK W (gwS n W (fun _ => 0)) (dnS n W) (rCar n W (fun _ => 0)) (nI r) k 3 := by rw [fl_h (by decide) (by decide) k (by omega)]; exact h.1.2.2.2.1
      have l10 : LR (flK W (gwS n W (fun _ => 0)) (dnS n W) (rCar n W (fun _ => 0)) (nI r) k) (mst M' (o + 11) (f + cntK (dnS n W) k) (nI k)) (o + 9) := g3.cg rfl (fun _ _ _ => rfl) (by rw [mst_no (by omega)]) (by rw [mst_no (by omega)]) (mst_no (by omega))
      obtain ⟨M2, a1, a2, a3⟩ := C_add (p := k) (r := nI r) (why := mB (!hs (gwS n W (fun _ => 0)) k)) (bore := rCar n W (fun _ => 0) k) hG l10
      have e65 : ∀ b, b = (!hs (gwS n W (fun _ => 0)) k) → f_X9_collapse_65 o (nI (f + cntK (dnS n W) k) + (1 : Int32)) (nI r) (gwS n W (fun _ => 0)) (dnS n W) (nI k) (mst M' (o + 11) (f + cntK (dnS n W) k) (nI k) o 4) (mst M' (o + 11) (f + cntK (dnS n W) k) (nI k) o 3) (nI k) (nI r) b (mst M' (o + 11) (f + cntK (dnS n W) k) (nI k)) = some (.inr (nI (f + cntK (dnS n W) k) + (1 : Int32), nI (k + 1), M2)) := fun b hb => by
        subst hb
        unfold f_X9_collapse_65
        rw [mst_no (show o ≠ o + 11 by omega), mst_no (show o + 7 ≠ o + 11 by omega), hMo, hM7, e4, e3, gd_t (i_in hk i_28), i_ix (by omega), h.2.2 k hk, a1, b2_s, i_1, i_1]
      rw [cond_true, bif_f (show decide ((8 : Int32) ≤ nI (f + cntK (dnS n W) k)) = false from i_8 (by omega)), gd_t (i_in (by omega) (by decide)), i_ix (by omega), wr_e]
      refine ⟨(nI (f + cntK (dnS n W) k) + (1 : Int32), nI (k + 1), M2), ?_, ?_, rfl, ?_, ?_, ?_⟩
      · cases hg : hs (gwS n W (fun _ => 0)) k
        · rw [cond_false, e65 true (by rw [hg]; rfl)]
        · rw [cond_true, e65 false (by rw [hg]; rfl)]
      · show nI (f + cntK (dnS n W) k) + (1 : Int32) = nI (f + cntK (dnS n W) (k + 1))
        rw [i_1, cntK_s, hd]
        rfl
      · rw [flK_s, hd, cond_true]
        exact a2.cg (upd_ne (by omega)) (fun j h1 h2 => upd_ne (by omega)) rfl rfl rfl
      · intro i hi
        show M2 (o + 11) i = _
        rw [a3 _ (by omega) (by omega), ordK_s, hd, cond_true]
        rw [cntK_s, hd] at hi
        by_cases hi2 : i = f + cntK (dnS n W) k
        · subst hi2
          rw [mst_oo, upd_at]
        · rw [mst_nk hi2, upd_ne hi2]
          exact g4 i (by simp only [cond_true] at hi; omega)
      · intro z z1 z2 z3
        show M2 z = M z
        rw [a3 z z1 z2, mst_no z3, g5 z z1 z2 z3]
  · obtain ⟨q1, q2, M'⟩ := q
    obtain ⟨rfl, rfl, g3, g4, g5⟩ := hq
    dsimp only at g3 g4 g5
    rw [e8] at g3
    show ∃ u, f_X9_collapse_34 o (nI (f + cntK (dnS n W) 8)) (nI r) (gwS n W (fun _ => 0)) (dnS n W) (nI 8) M' = some (.inl u) ∧ _
    unfold f_X9_collapse_34
    have hMo : M' o = M o := g5 o (by omega) (by omega) (by omega)
    have h6 : M' (o + 6) = M (o + 6) := g5 _ (by omega) (by omega) (by omega)
    rw [bif_t i_88, T_down ho, b2_s, wr_e, wr_e]
    obtain ⟨-, a1, a2, a3, a4, a5, a6, a7, -⟩ := id h.1
    generalize hN : rs (mst M' o 1 (M' o 1 &&& (dnS n W ^^^ (-1 : Int32)))) (o + 6) (dnK (dnS n W) (M' (o + 6)) 8) = N
    have eN : ∀ z, z ≠ o → z ≠ o + 6 → N z = M' z := fun z h1 h2 => by rw [← hN, rs_ne h2, mst_no h1]
    have eN0 : ∀ k, k ≠ 1 → N o k = M o k := fun k hk => by rw [← hN, rs_ne (by omega), mst_nk hk, hMo]
    have eN1 : N o 1 = upS n W &&& (dnS n W ^^^ (-1 : Int32)) := by rw [← hN, rs_ne (by omega), mst_oo, hMo, a1]
    have eN6 : N (o + 6) = dnK (dnS n W) (M (o + 6)) 8 := by rw [← hN, rs_at, h6]
    have f0 : ∀ k, k ≠ 2 → k ≠ 19 → mst (mst N o 2 (N o 2 &&& (dnS n W ^^^ (-1 : Int32)))) o 19 (nI r) o k = N o k := fun k h1 h2 => by rw [mst_nk h2, mst_nk h1]
    have fz : ∀ z, z ≠ o → mst (mst N o 2 (N o 2 &&& (dnS n W ^^^ (-1 : Int32)))) o 19 (nI r) z = N z := fun z hz => by rw [mst_no hz, mst_no hz]
    have fr : ∀ j, 1 ≤ j → j ≤ 8 → j ≠ 6 → mst (mst N o 2 (N o 2 &&& (dnS n W ^^^ (-1 : Int32)))) o 19 (nI r) (o + j) = M (o + j) := fun j h1 h2 h3 => by rw [fz _ (by omega), eN _ (by omega) (by omega), g5 _ (by omega) (by omega) (by omega)]
    have hr : ∀ j, j ≠ 6 → (j < 8 ∨ 424 ≤ j) → rndW n W (nI r) j = W j := fun j h1 h2 => rnd_h h8 h1 h2
    refine ⟨_, rfl, _, rfl, TR.mk ?_ ?_ ?_ ?_ ?_ ?_ ?_ ?_ (fun p hp => ?_) (fun p hp hp8 => ?_) ?_, ?_, mst_oo _ _ _ _, fun z hz => ?_⟩
    · rw [f0 _ (by decide) (by decide), eN0 _ (by decide)]; exact h.1.1
    · rw [f0 _ (by decide) (by decide), eN1, rnd_ups h8]
    · rw [mst_nk (by decide), mst_oo, eN0 _ (by decide), a2, rnd_sls h8]
    · rw [f0 _ (by decide) (by decide), eN0 _ (by decide), a3, hr _ (by decide) (by decide)]
    · rw [f0 _ (by decide) (by decide), eN0 _ (by decide), a4, hr _ (by decide) (by decide)]
    · rw [f0 _ (by decide) (by decide), eN0 _ (by decide), a5, hr _ (by decide) (by decide)]
    · rw [f0 _ (by decide) (by decide), eN0 _ (by decide), a6, hr _ (by decide) (by decide)]
    · rw [f0 _ (by decide) (by decide), eN0 _ (by decide), a7, hr _ (by decide) (by decide)]
    · obtain ⟨b0, b1, b2, b3, b4, b5⟩ := h.1.pp hp
      have pc : ∀ c, c < 7 → c ≠ 5 → c ≠ 6 → c ≠ 3 → pv (rndW n W (nI r)) p c = pv W p c := fun c h1 h2 h3 h4 => by
        unfold rndW
        rw [wD_c (by omega) h1 h2 h3, flW_pv h8 (by omega) h1 h4]
      rw [fr 1 (by omega) (by omega) (by omega), fr 2 (by omega) (by omega) (by omega), fr 3 (by omega) (by omega) (by omega), fr 4 (by omega) (by omega) (by omega), fr 5 (by omega) (by omega) (by omega), pc 0 (by decide) (by decide) (by decide) (by decide), pc 1 (by decide) (by decide) (by decide) (by decide), pc 2 (by decide) (by decide) (by decide) (by decide), pc 4 (by decide) (by decide) (by decide) (by decide), fz _ (by omega), eN6]
      refine ⟨b0, b1, b2, b3, ?_, fun g => ?_⟩
      · unfold rndW dnK
        rw [wD_6 hp h8, flW_pv h8 (by omega) (by decide) (by decide), if_pos (by omega), b4]
      · unfold rndW at g ⊢
        rw [wD_up hp h8, Bool.and_eq_true, flW_up h8 (by omega)] at g
        rw [wD_5 hp h8, flW_pv h8 (by omega) (by decide) (by decide), b5 g.1]
        cases e : hs (dnS n W) p
        · rfl
        · rw [e] at g; exact absurd g.2 (by decide)
    · obtain ⟨c1, c2, c3⟩ := h.1.p0 hp hp8
      rw [fr 3 (by omega) (by omega) (by omega), fr 4 (by omega) (by omega) (by omega), fz _ (by omega), eN6]
      refine ⟨c1, c2, ?_⟩
      unfold dnK
      rw [if_pos hp8, c3, i_and0]
      cases hs (dnS n W) p <;> rfl
    · refine g3.cg ?_ (fun k h1 h2 => ?_) ?_ ?_ ?_
      · unfold rndW; rw [wD_o (by decide)]
      · unfold rndW; rw [wD_o (by omega)]
      · rw [fz _ (by omega), eN _ (by omega) (by omega)]
      · rw [fz _ (by omega), eN _ (by omega) (by omega)]
      · rw [fz _ (by omega), eN _ (by omega) (by omega)]
    · intro i hi
      rw [fz _ (by omega), eN _ (by omega) (by omega)]
      exact g4 i hi
    · rw [fz _ (by omega), eN _ (by omega) (by omega), g5 _ (by omega) (by omega) (by omega)]
/-- a FALL, by the class -/
theorem C_collapse (hw : WF n W) {M : mM} {o : Nat} (h : TR n W M o) (ho : mTwB o = true) : ∃ M1, f_X9_collapse o M = some (nI (fF n W (fK n W)), M1) ∧ TS n (falW n W) M1 o ∧ (∀ i, i < fF n W (fK n W) → M1 (o + 11) i = fA n W (fK n W) i) ∧ M1 o 19 = nI (fK n W) ∧ ∀ z, (z < o ∨ o + 11 < z) → M1 z = M z := by
  have h8 := hw.2.1
  have hK : fK n W ≤ 8 := fK_le
  unfold f_X9_collapse f_X9_collapse_l7
  rw [gd_t ho, wr_e]
  have h0 : TR n W (mst M o 19 0) o := h.frame (fun j hj h7 h88 k hk => by
    by_cases hj0 : j = 0
    · subst hj0
      exact mst_nk (by have := hk rfl; omega)
    · rw [mst_no (by omega)]) (mst_no (by omega))
  have key := wh_P (b := fun s : Int32 × Int32 × mM => f_X9_collapse_7 o s.1 s.2.1 s.2.2) (fun k q => q.1 = nI (fF n W k) ∧ q.2.1 = nI (k + 1) ∧ TR n (fW n W k) q.2.2 o ∧ (∀ i, i < fF n W k → q.2.2 (o + 11) i = fA n W k i) ∧ q.2.2 o 19 = nI k ∧ ∀ z, (z < o ∨ o + 11 < z) → q.2.2 z = M z)
    (fun u : Int32 × mM => u.1 = nI (fF n W (fK n W)) ∧ TS n (falW n W) u.2 o ∧ (∀ i, i < fF n W (fK n W) → u.2 (o + 11) i = fA n W (fK n W) i) ∧ u.2 o 19 = nI (fK n W) ∧ ∀ z, (z < o ∨ o + 11 < z) → u.2 z = M z) (fK n W) 100000 (0, 1, mst M o 19 0) ⟨rfl, rfl, h0, fun i hi => absurd hi (Nat.not_lt_zero i), mst_oo _ _ _ _, fun z hz => mst_no (by omega)⟩ (fun k hk q hq => ?_) (fun q hq => ?_) (by omega)
  · obtain ⟨u, e1, e2, e3⟩ := key
    exact ⟨u.2, by rw [e1, ← e2], e3⟩
  · obtain ⟨q1, q2, M'⟩ := q
    obtain ⟨rfl, rfl, g3, g4, g5, g6⟩ := hq
    dsimp only at g3 g4 g5 g6
    have hwk := hw.fW k
    obtain ⟨M1, a1, a2, a3, a4⟩ := g3.settle ho
    have hst := fK_lt hk
    rw [st_dn] at hst
    obtain ⟨M2, b1, b2, b3, b4, b5⟩ := C_fl_in hwk (r := k + 1) (f := fF n W k) (A := fA n W k) a2 ho (fF_le2 h8 k) (fun i hi => by rw [a3 _ (by omega) (by omega)]; exact g4 i hi)
    show ∃ s', f_X9_collapse_7 o (nI (fF n W k)) (nI (k + 1)) M' = some (.inr s') ∧ _
    refine ⟨(nI (fF n W (k + 1)), nI (k + 1 + 1), M2), ?_, rfl, rfl, b2, b3, b4, fun z hz => ?_⟩
    · unfold f_X9_collapse_7
      have e9 : decide ((8 : Int32) < nI (k + 1)) = false := by
        rw [show (8 : Int32) = nI 8 from rfl, i_lt (by decide) (by omega)]
        exact decide_eq_false (by omega)
      rw [e9, cond_false, a1, b2_s, T_hold ho, a2.1.ho, b1_s, a2.yield ho, b1_s, a2.1.hang ho, b1_s, dn]
      show (bif !decide (dnS n (fW n W k) = 0) then f_X9_collapse_l34 o (nI (k + 1)) (gwS n (fW n W k) (fun _ => 0)) (dnS n (fW n W k)) (nI (fF n W k)) 0 M1 else _) = _
      rw [hst, Bool.not_false, cond_true, b1, i_1]
      rfl
    · show M2 z = M z
      rw [b5 z hz, a3 z (by omega) (by omega), g6 z hz]
  · obtain ⟨q1, q2, M'⟩ := q
    obtain ⟨rfl, rfl, g3, g4, g5, g6⟩ := hq
    dsimp only at g3 g4 g5 g6
    obtain ⟨M1, a1, a2, a3, a4⟩ := g3.settle ho
    have hst := fK_st (n := n) (W := W) h8
    refine ⟨(nI (fF n W (fK n W)), M1), ?_, rfl, a2, fun i hi => ?_, ?_, fun z hz => ?_⟩
    · show f_X9_collapse_7 o (nI (fF n W (fK n W))) (nI (fK n W + 1)) M' = _
      unfold f_X9_collapse_7
      rw [a1]
      cases e9 : decide ((8 : Int32) < nI (fK n W + 1))
      · rw [cond_false, b2_s, T_hold ho, a2.1.ho, b1_s, a2.yield ho, b1_s, a2.1.hang ho, b1_s, dn]
        show (bif !decide (dnS n (fW n W (fK n W)) = 0) then _ else _) = _
        have : decide (dnS n (fW n W (fK n W)) = 0) = true := hst
        rw [this, Bool.not_true, cond_false]
      · rw [cond_true, b2_s]
    · show M1 (o + 11) i = _
      rw [a3 _ (by omega) (by omega)]
      exact g4 i hi
    · show M1 o 19 = _
      rw [a4 19 (by decide), g5]
    · show M1 z = M z
      rw [a3 z (by omega) (by omega), g6 z hz]
/-- by the reference -/
theorem M_fl_in (hw : WF n W) {M : mM} {r f : Nat} {A : Nat → Int32} (h216 : M 216 = W) (hb' : ∀ p, p < 8 → M 221 p = rCar n W (fun _ => 0) p) (hf : f + cntK (dnS n W) 8 ≤ 8) (h10 : M 215 10 = nI f) (h11 : M 215 11 = nI r) (hA : ∀ i, i < f → M 222 i = A i) :
    ∃ M1, f_X12_allFall_l25 (gwS n W (fun _ => 0)) (dnS n W) 0 M = some (.inr M1) ∧ M1 216 = rndW n W (nI r) ∧ M1 215 10 = nI (f + cntK (dnS n W) 8) ∧ (∀ i, i < f + cntK (dnS n W) 8 → M1 222 i = ordK A f (dnS n W) 8 i) ∧ (∀ z, z ≠ 215 → z ≠ 216 → z ≠ 222 → M1 z = M z) ∧ ∀ k, k ≠ 10 → M1 215 k = M 215 k := by
  have h8 := hw.2.1
  have hn : ∀ k, k ≤ 8 → flK W (gwS n W (fun _ => 0)) (dnS n W) (rCar n W (fun _ => 0)) (nI r) k 0 = nI n := fun k hk => by rw [fl_h (by decide) (by decide) k hk]; exact hw.1
  have o8 := ord_n (n := n) (d := dnS n W) (A := A) (f := f) (fun p h1 h2 => dn_n h1 h2) 8 h8 (Nat.le_refl 8)
  rw [o8.1, o8.2]
  rw [o8.2] at hf
  unfold f_X12_allFall_l25
  have key := wh_P (b := fun s : Int32 × mM => f_X12_allFall_25 (gwS n W (fun _ => 0)) (dnS n W) s.1 s.2) (fun k q => q.1 = nI k ∧ q.2 216 = flK W (gwS n W (fun _ => 0)) (dnS n W) (rCar n W (fun _ => 0)) (nI r) k ∧ q.2 215 10 = nI (f + cntK (dnS n W) k) ∧ (∀ i, i < f + cntK (dnS n W) k → q.2 222 i = ordK A f (dnS n W) k i) ∧ (∀ z, z ≠ 215 → z ≠ 216 → z ≠ 222 → q.2 z = M z) ∧ ∀ j, j ≠ 10 → q.2 215 j = M 215 j)
    (fun u : (Unit × mM) ⊕ mM => ∃ M1, u = .inr M1 ∧ M1 216 = rndW n W (nI r) ∧ M1 215 10 = nI (f + cntK (dnS n W) n) ∧ (∀ i, i < f + cntK (dnS n W) n → M1 222 i = ordK A f (dnS n W) n i) ∧ (∀ z, z ≠ 215 → z ≠ 216 → z ≠ 222 → M1 z = M z) ∧ ∀ k, k ≠ 10 → M1 215 k = M 215 k) n 100000 (0, M) ⟨rfl, h216, h10, hA, fun _ _ _ _ => rfl, fun _ _ => rfl⟩ (fun k hk q hq => ?_) (fun q hq => ?_) (by omega)
  · obtain ⟨u, e1, M1, rfl, e3⟩ := key
    exact ⟨M1, e1, e3⟩
  · obtain ⟨q1, M'⟩ := q
    obtain ⟨rfl, g2, g3, g4, g5, g6⟩ := hq
    dsimp only at g2 g3 g4 g5 g6
    show ∃ s', f_X12_allFall_25 (gwS n W (fun _ => 0)) (dnS n W) (nI k) M' = some (.inr s') ∧ _
    unfold f_X12_allFall_25
    rw [m_ppl (n := n) (by rw [g2]; exact hn k (by omega)), b1_s, bif_f (i_len hk h8), mhas_hs (by omega), mhas_hs (by omega), i_1]
    cases hd : hs (dnS n W) k
    · rw [cond_false]
      refine ⟨_, rfl, rfl, ?_, ?_, ?_, g5, g6⟩
      · rw [flK_s, hd]; exact g2
      · rw [cntK_s, hd]; exact g3
      · rw [ordK_s, cntK_s, hd]; exact g4
    · have hlt := cntK_lt hk hd
      have e45 : ∀ b, b = (!hs (gwS n W (fun _ => 0)) k) → f_X12_allFall_45 (gwS n W (fun _ => 0)) (dnS n W) (nI k) (nI k) (M' 215 11) b M' = some (.inr (nI (k + 1), rs (mst (mst (rs M' 216 (tellW (M' 216) k (nI r) (mB b) (M' 221 k))) 222 (f + cntK (dnS n W) k) (nI k)) 215 10 (nI (f + cntK (dnS n W) k + 1))) 216 (flK W (gwS n W (fun _ => 0)) (dnS n W) (rCar n W (fun _ => 0)) (nI r) (k + 1)))) := fun b hb => by
        unfold f_X12_allFall_45
        have w1 : rs M' 216 (tellW (M' 216) k (nI r) (mB b) (M' 221 k)) 215 10 = nI (f + cntK (dnS n W) k) := by rw [rs_ne (by decide), g3]
        rw [g6 11 (by decide), h11, m_tells (W := M' 216) (show k < 8 by omega) rfl, b2_s, w1, gd_t (i_in (by omega) (by decide)), i_ix (by omega), wr_e, mst_no (show 215 ≠ 222 by decide), w1, i_1, wr_e, show (3 : Int32) = nI 3 from rfl, i_at, gd_t (i_in (by omega) (by decide)), i_ix (by omega), wr_e, i_1]
        have e6 : mst (mst (mst (rs M' 216 (tellW (M' 216) k (nI r) (mB b) (M' 221 k))) 222 (f + cntK (dnS n W) k) (nI k)) 215 10 (nI (f + cntK (dnS n W) k + 1))) 216 (8 + 7 * k + 3) 0 = rs (mst (mst (rs M' 216 (tellW (M' 216) k (nI r) (mB b) (M' 221 k))) 222 (f + cntK (dnS n W) k) (nI k)) 215 10 (nI (f + cntK (dnS n W) k + 1))) 216 (flK W (gwS n W (fun _ => 0)) (dnS n W) (rCar n W (fun _ => 0)) (nI r) (k + 1)) := by
          rw [mst_rs (mst (mst (rs M' 216 (tellW (M' 216) k (nI r) (mB b) (M' 221 k))) 222 (f + cntK (dnS n W) k) (nI k)) 215 10 (nI (f + cntK (dnS n W) k + 1))), mst_no (show 216 ≠ 215 by decide), mst_no (show 216 ≠ 222 by decide), rs_at, flK_s, hd, cond_true, g2, hb, g5 221 (by decide) (by decide) (by decide), hb' k (by omega)]
        rw [e6]
      rw [cond_true]
      refine ⟨(nI (k + 1), rs (mst (mst (rs M' 216 (tellW (M' 216) k (nI r) (mB (!hs (gwS n W (fun _ => 0)) k)) (M' 221 k))) 222 (f + cntK (dnS n W) k) (nI k)) 215 10 (nI (f + cntK (dnS n W) k + 1))) 216 (flK W (gwS n W (fun _ => 0)) (dnS n W) (rCar n W (fun _ => 0)) (nI r) (k + 1))), ?_, rfl, by (dsimp only; exact rs_at _ _ _), ?_, ?_, ?_, ?_⟩
      · cases hg : hs (gwS n W (fun _ => 0)) k
        · rw [cond_false, e45 true (by rw [hg]; rfl)]; rfl
        · rw [cond_true, e45 false (by rw [hg]; rfl)]; rfl
      · dsimp only
        rw [rs_ne (by decide), mst_oo, cntK_s, hd]
        rfl
      · intro i hi
        dsimp only
        rw [rs_ne (by decide), mst_no (by decide), ordK_s, hd, cond_true]
        rw [cntK_s, hd] at hi
        by_cases hi2 : i = f + cntK (dnS n W) k
        · subst hi2
          rw [mst_oo, upd_at]
        · rw [mst_nk hi2, upd_ne hi2, rs_ne (by decide)]
          exact g4 i (by simp only [cond_true] at hi; omega)
      · intro z z1 z2 z3
        dsimp only
        rw [rs_ne z2, mst_no z1, mst_no z3, rs_ne z2, g5 z z1 z2 z3]
      · intro j hj
        dsimp only
        rw [rs_ne (by decide), mst_nk hj, mst_no (by decide), rs_ne (by decide), g6 j hj]
  · obtain ⟨q1, M'⟩ := q
    obtain ⟨rfl, g2, g3, g4, g5, g6⟩ := hq
    dsimp only at g2 g3 g4 g5 g6
    have hn' : M' 216 0 = nI n := by rw [g2]; exact hn n h8
    refine ⟨.inr (rs M' 216 (rndW n W (nI r))), ?_, rs M' 216 (rndW n W (nI r)), rfl, rs_at _ _ _, by rw [rs_ne (by decide)]; exact g3, fun i hi => by rw [rs_ne (by decide)]; exact g4 i hi, fun z z1 z2 z3 => by rw [rs_ne z2]; exact g5 z z1 z2 z3, fun j hj => by rw [rs_ne (by decide)]; exact g6 j hj⟩
    show f_X12_allFall_25 (gwS n W (fun _ => 0)) (dnS n W) (nI n) M' = _
    unfold f_X12_allFall_25
    rw [m_ppl (n := n) hn', b1_s, bif_t (i_lee n), m_comesOutOf hn' h8, b2_s, g2, subK_n dn_8 (fun p h1 h2 => dn_n h1 h2)]
    rfl
end
