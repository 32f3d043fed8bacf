/-! solo, the op -/
section
variable {n : Nat} {M : mM}
theorem m_back3 {X Y : mM} {W : Nat → Int32} (h219 : Y 219 = rs X 219 (va_cpy W (X 219) 0 0 424) 219) (hW : ∀ k, 424 ≤ k → Y 216 k = W k) : f_X12_bringsBack Y = some ((), rs Y 216 W) := m_back (m_219 h219) hW
/-- what the class has of them -/
theorem cq_rel {M1 : mM} (h : ∀ z, z ≠ 13 → z ≠ 14 → z ≠ 15 → M1 z = M z) : CQ (mst M 1 1 0) (mst M1 1 1 0) := CQ.of fun z hz => by
  by_cases h1 : z = 1
  · subst h1
    funext j
    by_cases hj : j = 1
    · rw [hj, mst_oo, mst_oo]
    · rw [mst_nk hj, mst_nk hj, h 1 (by decide) (by decide) (by decide)]
  · rw [mst_no h1, mst_no h1]
    exact h z (fun e => by subst e; cases hz) (fun e => by subst e; cases hz) (fun e => by subst e; cases hz)
theorem C_firstRows {N : mM} {W : Nat → Int32} (hw : WF n W) (ht : TS n W N 35) {m : Nat} {P O : Nat → Nat} (hm : m ≤ 4) (hA : Dst n m P O) (h13 : N 13 3 = nI m) (h14 : ∀ r, r < m → N 14 r = nI (P r) ∧ N 15 r = nI (O r)) : ∃ M1, f_X4_firstRows 35 47 N = some (setK (fun r => decide (r < m) && (caB W P O r && stB n (wSw n W (P r) (O r)) (fun _ => 0))) 4, M1) ∧ ∀ z, (z < 47 ∨ 58 < z) → M1 z = N z := by
  have h8 := hw.2.1
  unfold f_X4_firstRows f_X4_firstRows_l4
  rw [gd_t T35, gd_t T47]
  refine wh_3 (fun k => setK (fun r => decide (r < m) && (caB W P O r && stB n (wSw n W (P r) (O r)) (fun _ => 0))) k) (fun X => ∀ z, (z < 47 ∨ 58 < z) → X z = N z) _ 4 0 N rfl (fun _ _ => rfl) (fun k hk X hX => ?_) (fun X hX => ?_) (by decide)
  · show ∃ M', f_X4_firstRows_4 35 47 (setK _ k) (nI k) X = some (.inr (setK _ (k + 1), nI (k + 1), M')) ∧ _
    rw [setK_s]
    generalize setK (fun r => decide (r < m) && (caB W P O r && stB n (wSw n W (P r) (O r)) (fun _ => 0))) k = z
    unfold f_X4_firstRows_4
    rw [show decide ((4 : Int32) ≤ nI k) = false from i_lit (a := 4) (by decide) hk, cond_false, hX 13 (by decide), h13, i_ge (by omega) (by omega), i_1]
    by_cases hkm : k < m
    · rw [decide_eq_true hkm, Bool.not_true, cond_false, Bool.true_and]
      obtain ⟨M1, e1, f1⟩ := C_stA (N := X) hw (ht.in216 h8 fun z z1 z2 => hX z (by omega)) hm hA (fun r hr => by rw [hX 14 (by decide), hX 15 (by decide)]; exact h14 r hr) (s := f_X11_bit (nI k)) (fun j hj hh => by rw [hs_bit (by omega) (by omega)] at hh; rw [← of_decide_eq_true hh]; exact hkm)
      rw [e1, b2_s, sAf_cg (D' := fun j => decide (j = k)) fun j hj => by rw [hs_bit (by omega) (by omega), dsy], sAf_1 hk]
      cases caB W P O k && stB n (wSw n W (P k) (O k)) (fun _ => 0)
      · rw [cond_false, cond_false]
        exact ⟨_, rfl, fun z hz => (f1 z hz).trans (hX z hz)⟩
      · rw [cond_true, cond_true]
        exact ⟨_, rfl, fun z hz => (f1 z hz).trans (hX z hz)⟩
    · rw [decide_eq_false hkm, Bool.not_false, cond_true, Bool.false_and, cond_false]
      exact ⟨_, rfl, hX⟩
  · show ∃ M', f_X4_firstRows_4 35 47 _ (nI 4) X = _ ∧ _
    unfold f_X4_firstRows_4
    rw [show decide ((4 : Int32) ≤ nI 4) = true from rfl, cond_true]
    exact ⟨_, rfl, hX⟩
theorem M_solo_l {N : mM} {W : Nat → Int32} (hw : WF n W) (e : N 216 = W) {L : Nat} {P O : Nat → Nat} (hL : L ≤ 8) (hA : Dst n (L / 2) P O) (h15 : N 215 15 = nI L) (h223 : ∀ r, r < L / 2 → N 223 (2 * r) = nI (P r) ∧ N 223 (2 * r + 1) = nI (O r)) : ∃ M1, f_X12_solo_l18 0 0 N = some (setK (fun r => decide (r < L / 2) && (caB W P O r && stB n (wSw n W (P r) (O r)) (fun _ => 0))) (L / 2), M1) ∧ ∀ z, z ≠ 219 → z ≠ 221 → M1 z = N z := by
  have h8 := hw.2.1
  unfold f_X12_solo_l18
  refine wh_3 (fun k => setK (fun r => decide (r < L / 2) && (caB W P O r && stB n (wSw n W (P r) (O r)) (fun _ => 0))) k) (fun X => ∀ z, z ≠ 219 → z ≠ 221 → X z = N z) _ (L / 2) 0 N rfl (fun _ _ _ => rfl) (fun k hk X hX => ?_) (fun X hX => ?_) (by omega)
  · show ∃ M', f_X12_solo_18 (setK _ k) (nI k) X = some (.inr (setK _ (k + 1), nI (k + 1), M')) ∧ _
    rw [setK_s]
    generalize setK (fun r => decide (r < L / 2) && (caB W P O r && stB n (wSw n W (P r) (O r)) (fun _ => 0))) k = v
    have X216 : X 216 = W := by rw [hX 216 (by decide) (by decide)]; exact e
    obtain ⟨p1, p2⟩ := hA.1 k hk
    obtain ⟨b1, b2⟩ := h223 k hk
    generalize hY : rs X 219 (va_cpy W (X 219) 0 0 424) = Y
    have Y216 : Y 216 = W := by rw [← hY, rs_ne (by decide)]; exact X216
    have Y223 : Y 223 = N 223 := by rw [← hY, rs_ne (by decide)]; exact hX 223 (by decide) (by decide)
    obtain ⟨N', g1, g2, g3, g4⟩ := m_relieves (N := Y) (P := P) (O := O) (r := k) (by omega) (by rw [Y216]; exact hw) p1 p2 (by rw [Y223]; exact b1) (by rw [Y223]; exact b2)
    rw [Y216] at g1 g2 g3
    have hb : f_X12_bringsBack N' = some ((), rs N' 216 W) := m_back3 (X := X) (by rw [g4 219 (by decide) (by decide), hY]) fun j hj => by
      cases c : caB W P O k
      · rw [g3 c]
      · rw [g2 c, wSw_o (by omega)]
    have hF : ∀ z, z ≠ 219 → z ≠ 221 → rs N' 216 W z = N z := fun z z1 z2 => by
      by_cases h6 : z = 216
      · rw [h6, rs_at]; exact e.symm
      · rw [rs_ne h6, g4 z h6 z2, ← hY, rs_ne z1]; exact hX z z1 z2
    unfold f_X12_solo_18 f_X12_solo_36
    rw [hX 215 (by decide) (by decide), h15, i_2d (by omega), i_ge (by omega) (by omega), decide_eq_true hk, Bool.not_true, cond_false, m_kp2 X216, b2_s, hY, g1, b2_s, hb, b2_s, b2_s, b_or0, bitE, i_1, Bool.true_and]
    cases caB W P O k && stB n (wSw n W (P k) (O k)) (fun _ => 0)
    · rw [cond_false, cond_false]
      exact ⟨_, rfl, hF⟩
    · rw [cond_true, cond_true]
      exact ⟨_, rfl, hF⟩
  · show ∃ M', f_X12_solo_18 _ (nI (L / 2)) X = _ ∧ _
    unfold f_X12_solo_18
    rw [hX 215 (by decide) (by decide), h15, i_2d (by omega), i_lee, cond_true]
    exact ⟨_, rfl, hX⟩
theorem Op_solo (h : Rl n M) : OpT M f_X11_solo f_X12_solo tOne := by
  have h8 := h.h8
  obtain ⟨L, B, hL, t1, t2, t3⟩ := h.tp.by'
  obtain ⟨M1, e1, f1, g1⟩ := C_rel h hL t1 t3
  have hC : f_X11_solo M = tb (f_X11_mustBeOne (decide (L % 2 = 0) && (decide (L ≤ 8) && okG n B L)) (mst M1 1 1 0)) (fun _ M3 => b2 (f_X4_firstRows 35 47 M3) (fun v4 M4 => some (.inl v4, M4))) := by
    unfold f_X11_solo
    rw [show M 35 0 = nI n from h.tr.1, e1, b2_s, wr_e]
  have hM : ∀ Mo : mM, (∀ z, 215 ≤ z → z ≠ 231 → Mo z = M z) → f_X12_solo Mo = f_X12_solo_9 (!(decide (L % 2 = 0) && (decide (L ≤ 8) && okG n B L))) (usM Mo L) := fun Mo ho => by
    unfold f_X12_solo
    rw [m_uses (L := L) (by rw [ho 215 (by decide) (by decide)]; exact t2), b2_s, m_isGuard (n := n) (L := L) (B := B) (by rw [us_z (by decide), ho 216 (by decide) (by decide)]; exact h.hn) h8 hL us_15 fun i hi => ⟨by rw [us_z (by decide), ho 223 (by decide) (by decide)]; exact (t3 i hi).2.2, (t3 i hi).1⟩, b1_s]
    cases decide (L % 2 = 0) && (decide (L ≤ 8) && okG n B L)
    · rw [cond_false, Bool.not_false]
    · rw [cond_true, Bool.not_true]
  cases c : decide (L % 2 = 0) && (decide (L ≤ 8) && okG n B L)
  · refine OpT.u h (r := .inr 0) (M1 := mst M1 1 1 0) ?_ (cq_rel f1) fun Mo ho => ⟨0, mst (usM Mo L) 215 0 1, ?_, rq_us.tr (RQ.st215 (by decide)), by rw [mst_no (by decide), us_z (by decide)], ?_, by decide⟩
    · rw [hC, c]; rfl
    · rw [hM Mo ho, c]
      unfold f_X12_solo_9
      rw [Bool.not_false, m_tIf, b2_s, cond_true, cond_true]
    · exact mst_oo _ _ _ _
  · obtain ⟨g2, g3⟩ := g1 c
    rw [Bool.and_eq_true, Bool.and_eq_true] at c
    have hL8 := of_decide_eq_true c.2.1
    have hA := gd_dst h8 hL8 c.2.2
    obtain ⟨M2, a1, a2⟩ := C_firstRows (N := mst M1 1 1 0) h.wf (h.ts.in216 h8 fun z z1 z2 => by rw [mst_no (by omega), f1 z (by omega) (by omega) (by omega)]) (m := L / 2) (by omega) hA (by rw [mst_no (by decide)]; exact g2) fun r hr => by
      rw [mst_no (by decide), mst_no (by decide)]
      have x := g3 (2 * r) (by omega)
      have y := g3 (2 * r + 1) (by omega)
      rw [show 2 * r % 2 = 0 by omega, show 2 * r / 2 = r by omega] at x
      rw [show (2 * r + 1) % 2 = 1 by omega, show (2 * r + 1) / 2 = r by omega] at y
      exact ⟨x, y⟩
    have e4 : setK (fun r => decide (r < L / 2) && (caB (M 216) (fun r => B (2 * r)) (fun r => B (2 * r + 1)) r && stB n (wSw n (M 216) (B (2 * r)) (B (2 * r + 1))) (fun _ => 0))) 4 = setK (fun r => decide (r < L / 2) && (caB (M 216) (fun r => B (2 * r)) (fun r => B (2 * r + 1)) r && stB n (wSw n (M 216) (B (2 * r)) (B (2 * r + 1))) (fun _ => 0))) (L / 2) := setK_n (fun j h1 _ => by rw [decide_eq_false (by omega), Bool.false_and]) 4 (by omega) (by decide)
    refine OpT.u h (r := .inl (setK (fun r => decide (r < L / 2) && (caB (M 216) (fun r => B (2 * r)) (fun r => B (2 * r + 1)) r && stB n (wSw n (M 216) (B (2 * r)) (B (2 * r + 1))) (fun _ => 0))) 4)) (M1 := M2) ?_ ?_ fun Mo ho => ?_
    · rw [hC, c.1, c.2.1, c.2.2]
      unfold f_X11_mustBeOne
      rw [Bool.true_and, Bool.true_and, cond_true, tb_l, a1, b2_s]
    · exact (cq_rel f1).tr (CQ.hi fun z hz => a2 z (by omega))
    · have hlt : ∀ r, r < L / 2 → B (2 * r) < 8 ∧ B (2 * r + 1) < 8 := fun r hr => by have : B (2 * r) < n ∧ B (2 * r + 1) < n := hA.1 r hr; omega
      obtain ⟨M3, b1, b2⟩ := M_solo_l (N := usM Mo L) (W := M 216) h.wf (by rw [us_z (by decide), ho 216 (by decide) (by decide)]) hL8 hA us_15 fun r hr => by
        rw [us_z (by decide), ho 223 (by decide) (by decide), (t3 (2 * r) (by omega)).2.2, (t3 (2 * r + 1) (by omega)).2.2]
        exact ⟨sg_lo (by have := hlt r hr; omega), sg_lo (by have := hlt r hr; omega)⟩
      refine ⟨_, M3, ?_, rq_us.tr (RQ.of (fun z _ z2 z3 _ _ => b2 z z2 z3) fun k _ => by rw [b2 215 (by decide) (by decide)]), by rw [b2 231 (by decide) (by decide), us_z (by decide)], rfl, by rw [b2 215 (by decide) (by decide), us_0]⟩
      rw [hM Mo ho, c.1, c.2.1, c.2.2]
      unfold f_X12_solo_9
      rw [Bool.true_and, Bool.true_and, Bool.not_true, m_tIf, b2_s, cond_false, cond_false, b1, e4]
end
