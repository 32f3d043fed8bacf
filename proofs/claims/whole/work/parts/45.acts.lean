/-! acts: what is tried, and becomes so if it stands -/
theorem PsM.cg {M : mM} {c : Nat} {V V' : Nat → Nat → Int32} (h : PsM M c V) (e : ∀ j, j < c → eqW (V' j) (V j)) : PsM M c V' := ⟨h.1, fun j hj k hk => by rw [e j hj k hk, h.2 j hj k hk]⟩
theorem C_keepNext {n n' x c : Nat} {W W' : Nat → Int32} {M5 : mM} {V : Nat → Nat → Int32} {l2 : Int32} (hC : PsC M5 x c V l2) (hw : WF n W) (hst : stB n W (fun _ => 0) = true) (ht : TS n W M5 35) (hl : W 2 = l2) (ht' : TR n' W' M5 47) (h8 : n' ≤ 8) :
    ∃ M6, f_X11_keepNext M5 = some (bif stB n' W' (fun _ => 0) then .inl () else .inr 4, M6) ∧ (stB n' W' (fun _ => 0) = true → TS n' W' M6 35 ∧ PsC M6 ((x + 1) % 12) (min 12 (c + 1)) (PsV W V) l2) ∧ (stB n' W' (fun _ => 0) = false → ∀ z, (z < 47 ∨ 58 < z) → M6 z = M5 z) ∧ ∀ z, z ≠ 3 → (z < 35 ∨ 58 < z) → (z < 71 ∨ 215 ≤ z) → M6 z = M5 z := by
  obtain ⟨M1, e1, g1, g2, g3⟩ := ht'.settle T47
  obtain ⟨M2, e2, g4⟩ := g1.1.stands0 T47
  have f2 : ∀ z, z ≠ 47 → z ≠ 54 → z ≠ 55 → M2 z = M5 z := fun z h1 h2 h3 => by rw [g4 z h3, g2 z h1 h2]
  have ek : f_X11_keepNext M5 = tb (f_X11_mustBeSo (stB n' W' (fun _ => 0)) M2) (fun v3 M3 => b2 (f_X3_remember 35 M3) (fun v4 M4 => b2 (f_X9_copyFrom 35 47 M4) (fun v5 M5 => some (.inl (), M5)))) := by
    unfold f_X11_keepNext
    rw [e1, b2_s, e2, b2_s]
  rw [ek]
  unfold f_X11_mustBeSo
  cases hs : stB n' W' (fun _ => 0)
  · exact ⟨M2, rfl, fun z => by (cases z), fun _ z hz => f2 z (by omega) (by omega) (by omega), fun z h1 h2 h3 => f2 z (by omega) (by omega) (by omega)⟩
  · have tr2 : TS n' W' M2 47 := g1.in8 h8 fun z h1 h2 h3 => g4 z h3
    obtain ⟨M3, e3, g5, g6⟩ := C_remember (M := M2) (hC.mv fun z hz => f2 z (by omega) (by omega) (by omega)) hw hst (ht.in216 hw.2.1 fun z h1 h2 => f2 z (by omega) (by omega) (by omega)) hl
    have tr3 : TS n' W' M3 47 := tr2.in216 h8 fun z h1 h2 => g6 z (by omega) (by omega)
    refine ⟨cpT 35 47 M3, ?_, fun _ => ⟨tr3.mv h8 (cpT_e (by decide)), g5.mv fun z hz => cpT_F z (by omega)⟩, fun z => by (cases z), fun z h1 h2 h3 => ?_⟩
    · show tb (some (Sum.inl (), M2)) _ = _
      show b2 (f_X3_remember 35 M2) _ = _
      rw [e3, b2_s, T_copy T35 T47, b2_s]
      rfl
    · rw [cpT_F z (by omega), g6 z h1 h3, f2 z (by omega) (by omega) (by omega)]
theorem m_cannot {n c : Nat} {W W' : Nat → Int32} {M : mM} {V : Nat → Nat → Int32} (hn : W' 0 = nI n) (h8 : n ≤ 8) (h216 : M 216 = W') (h219 : ∀ k, k < 424 → M 219 k = W k) (hW : ∀ k, 424 ≤ k → W' k = W k) (hp : PsM M c V) (hc : c ≤ 12) :
    ∃ M1, f_X12_cannot M = some (!stB n W' (fun _ => 0), M1) ∧ (stB n W' (fun _ => 0) = true → M1 216 = W' ∧ PsM M1 (min 12 (c + 1)) (PsV W V)) ∧ (stB n W' (fun _ => 0) = false → M1 216 = W ∧ M1 220 = M 220 ∧ M1 215 = M 215) ∧ (∀ z, z ≠ 215 → z ≠ 216 → z ≠ 220 → z ≠ 221 → M1 z = M z) ∧ ∀ k, k ≠ 7 → M1 215 k = M 215 k := by
  subst h216
  unfold f_X12_cannot
  rw [m_stands hn h8, b2_s, stB_in _ (fun _ => 0)]
  cases hs : stB n (M 216) (fun _ => 0)
  · rw [cond_false, m_brings, b2_s]
    refine ⟨_, rfl, fun z => by (cases z), fun _ => ⟨?_, ?_, ?_⟩, fun z h1 h2 h3 h4 => ?_, fun k _ => ?_⟩
    · rw [rs_at]
      funext k
      by_cases hk : k < 424
      · rw [pk_cpy_in (Nat.zero_le _) (by omega), rs_ne (by decide), Nat.zero_add, Nat.sub_zero, h219 k hk]
      · rw [pk_cpy_out (by omega), rs_ne (by decide), hW k (by omega)]
    · rw [rs_ne (by decide), rs_ne (by decide)]
    · rw [rs_ne (by decide), rs_ne (by decide)]
    · rw [rs_ne h2, rs_ne h4]
    · rw [rs_ne (by decide), rs_ne (by decide)]
  · rw [cond_true]
    obtain ⟨M1, e1, g1, g2, g3⟩ := m_remembers (M := rs M 221 (rCar n (M 216) (M 221))) hc (hp.mv (by rw [rs_ne (by decide)]) (by rw [rs_ne (by decide)]))
    rw [e1, b2_s]
    refine ⟨M1, rfl, fun _ => ⟨by rw [g2 216 (by decide) (by decide), rs_ne (by decide)], g1.cg fun j hj k hk => ?_⟩, fun z => by (cases z), fun z h1 h2 h3 h4 => by rw [g2 z h1 h3, rs_ne h4], fun k hk => by rw [g3 k hk, rs_ne (by decide)]⟩
    match j with
    | 0 =>
      show W k = rs M 221 _ 219 k
      rw [rs_ne (by decide), h219 k hk]
    | j + 1 => rfl
theorem m_tIf {M : mM} {b : Bool} {t : Int32} : f_X12_throwsIf b t M = some (b, bif b then mst M 215 0 t else M) := by
  unfold f_X12_throwsIf
  cases b <;> rfl
/-- all is as the acts leave it -/
theorem Rl.act {n n' x c : Nat} {M Mc M2 : mM} {W' : Nat → Int32} {V : Nat → Nat → Int32} (h : Rl n M) (hw : WF n' W') (hst : stB n' W' (fun _ => 0) = true) (ht : TS n' W' Mc 35) (hpc : PsC Mc x c V (M 216 2)) (hpm : PsM M2 c V) (ec : ∀ z, z < 215 → M2 z = Mc z) (e216 : M2 216 = W') (e2 : W' 2 = M 216 2) (el : ∀ k, 424 ≤ k → k < 1273 → W' k = M 216 k)
    (eK : ∀ z, z ≠ 3 → sC z = false → (z < 35 ∨ (58 < z ∧ z < 71)) → Mc z = M z) (eM : ∀ z, z = 217 ∨ z = 223 → M2 z = M z) (e5 : ∀ k, (k = 6 ∨ k = 13 ∨ k = 18) → M2 215 k = M 215 k) : Rl n' M2 := by
  have ex : ∀ z, z ≠ 3 → sC z = false → (z < 35 ∨ (58 < z ∧ z < 71)) → M2 z = M z := fun z h1 h2 h3 => by rw [ec z (by omega), eK z h1 h2 h3]
  have s1 : ∀ z, 29 ≤ z → z ≤ 33 → sC z = false := fun z h1 h2 => (by decide : ∀ j, j ≤ 4 → sC (29 + j) = false) (z - 29) (by omega) |> fun q => by rw [show 29 + (z - 29) = z by omega] at q; exact q
  have s2 : ∀ z, 59 ≤ z → z ≤ 69 → sC z = false := fun z h1 h2 => (by decide : ∀ j, j ≤ 10 → sC (59 + j) = false) (z - 59) (by omega) |> fun q => by rw [show 59 + (z - 59) = z by omega] at q; exact q
  refine ⟨by rw [e216]; exact hw, by rw [e216]; exact hst, by rw [e216]; exact ht.in216 hw.2.1 fun z h1 h2 => ec z (by omega), ?_, ?_, ?_, ?_⟩
  · rw [e216]
    refine (h.lw.eq2 e2 el).rf fun j hj => ?_
    match j, hj with
    | 0, _ => exact ex 17 (by decide) rfl (by decide)
    | 1, _ => exact ex 18 (by decide) rfl (by decide)
    | 2, _ => exact ex 19 (by decide) rfl (by decide)
    | 3, _ => exact ex 20 (by decide) rfl (by decide)
    | 4, _ => exact ex 21 (by decide) rfl (by decide)
  · exact h.tp.mv (ex 1 (by decide) rfl (by decide)) (ex 2 (by decide) rfl (by decide)) (eM _ (Or.inr rfl)) (e5 _ (by decide)) (e5 _ (by decide))
  · exact h.im.mv (by rw [ex 0 (by decide) rfl (by decide)]) (e5 _ (by decide)) (eM _ (Or.inl rfl)) (fun z h1 h2 => ex z (by omega) (s1 z h1 h2) (by omega)) (fun z h1 h2 => ex z (by omega) (s2 z h1 h2) (by omega))
  · exact Ps.mk (Mm := M2) hpc hpm ec rfl rfl (by rw [e216, e2])
theorem sC_hi {z : Nat} (h : sC z = false) : z < 46 ∨ 58 < z := by
  refine Classical.byContradiction fun hc => ?_
  have : ∀ j, j ≤ 12 → sC (46 + j) = true := by decide
  have q := this (z - 46) (by omega)
  rw [show 46 + (z - 46) = z by omega, h] at q
  cases q
theorem CQ.hi {M M' : mM} (h : ∀ z, (z < 46 ∨ 58 < z) → M' z = M z) : CQ M M' := CQ.of fun z hz => h z (sC_hi hz)
def mR4 (s : Bool) (v : Int32) : Int32 ⊕ Nat := bif s then .inl v else .inr 4
/-- the end of an act, both sides -/
theorem act_fin {n : Nat} {M M5 : mM} {W' : Nat → Int32} (h : Rl n M) (hq : CQ M M5) (hw : WF n W') (ht : TR n W' M5 47) (e2 : W' 2 = M 216 2) (el : ∀ k, 424 ≤ k → W' k = M 216 k) {fa : mM → Option Int32} {fb : mM → Option (Int32 × mM)} {v t : Int32}
    (ha : ∀ M6, TS n W' M6 35 → fa M6 = some v) (hb : ∀ Mx : mM, Mx 216 = W' → ∃ My, fb Mx = some (v, My) ∧ ∀ z, z ≠ 221 → My z = Mx z) :
    ∃ M1, tb (f_X11_keepNext M5) (fun _ M6 => b1 (fa M6) (fun v => some (.inl v, M6))) = some (mR4 (stB n W' (fun _ => 0)) v, M1) ∧ M1 216 = M 216 ∧ ∀ Mo : mM, (∀ z, z ≠ 231 → Mo z = M1 z) → ∀ Mp : mM, Mp 216 = W' → Mp 215 0 = 0 → (∀ k, k < 424 → Mp 219 k = M 216 k) → (∀ z, z ≠ 215 → z ≠ 216 → z ≠ 219 → Mp z = Mo z) → (∀ k, k ≠ 0 → Mp 215 k = Mo 215 k) →
      ∃ v' M2, b2 (f_X12_cannot Mp) (fun v5 M5 => b2 (f_X12_throwsIf v5 t M5) (fun v6 M6 => bif v6 then some ((0 : Int32), M6) else fb M6)) = some (v', M2) ∧ M2 231 = Mo 231 ∧ (∃ n', Rl n' M2) ∧ (stB n W' (fun _ => 0) = true → v' = v ∧ M2 215 0 = 0) ∧ (stB n W' (fun _ => 0) = false → M2 215 0 = t) := by
  obtain ⟨x, c, hC, hM⟩ := h.ps.out
  have h5 := h.cq hq
  have e216 : M5 216 = M 216 := hq.1 216 rfl (by decide)
  have h35 : TS n (M 216) M5 35 := h.ts.mv h.h8 (eqT.cq hq (Or.inl rfl))
  have hC5 : PsC M5 x c (pW M c) (M 216 2) := hC.mv fun z hz => hq.1 z (by
    rcases hz with rfl | hz
    · rfl
    · have : sC (71 + (z - 71)) = false := (by decide +kernel : ∀ j, j < 144 → sC (71 + j) = false) (z - 71) (by omega)
      rw [show 71 + (z - 71) = z by omega] at this
      exact this) (by omega)
  obtain ⟨M6, e6, g1, g2, g3⟩ := C_keepNext (W := M 216) hC5 h.wf h.st h35 rfl ht h.h8
  have hi5 : ∀ z, 215 ≤ z → M5 z = M z := fun z hz => hq.1 z (by
    unfold sC
    have b1 : Nat.ble z 16 = false := by cases e : Nat.ble z 16 with | false => rfl | true => exact absurd (Nat.ble_eq.mp e) (by omega)
    have b2 : Nat.ble z 28 = false := by cases e : Nat.ble z 28 with | false => rfl | true => exact absurd (Nat.ble_eq.mp e) (by omega)
    have b3 : Nat.ble z 58 = false := by cases e : Nat.ble z 58 with | false => rfl | true => exact absurd (Nat.ble_eq.mp e) (by omega)
    have b4 : Nat.beq z 34 = false := by cases e : Nat.beq z 34 with | false => rfl | true => exact absurd (Nat.eq_of_beq_eq_true e) (by omega)
    have b5 : Nat.beq z 43 = false := by cases e : Nat.beq z 43 with | false => rfl | true => exact absurd (Nat.eq_of_beq_eq_true e) (by omega)
    rw [b1, b2, b3, b4, b5, Bool.and_false, Bool.and_false, Bool.and_false]; rfl) (by omega)
  refine ⟨M6, ?_, by rw [g3 216 (by decide) (by decide) (by decide), hi5 216 (by decide)], fun Mo ho Mp p1 p2 p3 p4 p5 => ?_⟩
  · rw [e6]
    unfold mR4
    cases hs : stB n W' (fun _ => 0)
    · rfl
    · show b1 (fa M6) _ = _
      rw [ha M6 (g1 hs).1]
      rfl
  · have e7 : Mp 215 7 = M 215 7 := by rw [p5 7 (by decide), ho 215 (by decide), g3 215 (by decide) (by decide) (by decide), hi5 215 (by decide)]
    have e20 : Mp 220 = M 220 := by rw [p4 220 (by decide) (by decide) (by decide), ho 220 (by decide), g3 220 (by decide) (by decide) (by decide), hi5 220 (by decide)]
    obtain ⟨M7, e8, q1, q2, q3, q4⟩ := m_cannot (W := M 216) hw.1 hw.2.1 p1 p3 el (hM.mv e7 e20) hC.2.1
    rw [e8, b2_s, m_tIf, b2_s]
    have q0 : M7 215 0 = 0 := by rw [q4 0 (by decide), p2]
    cases hs : stB n W' (fun _ => 0)
    · rw [Bool.not_false, cond_true, cond_true]
      obtain ⟨r1, r2, r3⟩ := q2 hs
      refine ⟨0, mst M7 215 0 t, rfl, ?_, ⟨n, ?_⟩, fun z => by (cases z), fun _ => mst_oo _ _ _ _⟩
      · rw [mst_no (by decide), q3 231 (by decide) (by decide) (by decide) (by decide), p4 231 (by decide) (by decide) (by decide)]
      · -- nothing has changed
        have hcq : CQ M M6 := hq.tr (CQ.hi fun z hz => g2 hs z (by omega))
        have hr : Rl n M6 := h.cq hcq
        have e216' : M6 216 = M 216 := hcq.1 216 rfl (by decide)
        have hrq : RQ M6 M7 := by
          refine ⟨fun z a b => ?_, fun k hk => ?_⟩
          · by_cases h216 : z = 216
            · subst h216; rw [r1, e216']
            · by_cases h220 : z = 220
              · subst h220; rw [r2, e20, ← hcq.1 220 rfl (by decide)]
              · have n221 : z ≠ 221 := fun e => by subst e; cases a
                have n219 : z ≠ 219 := fun e => by subst e; cases a
                have n231 : z ≠ 231 := fun e => by subst e; cases a
                rw [q3 z b h216 h220 n221, p4 z b h216 n219, ho z n231]
          · rw [r3, p5 k (by omega), ho 215 (by decide)]
        exact (hr.mq hrq).mq (RQ.st215 (by decide))
    · rw [Bool.not_true, cond_false, cond_false]
      obtain ⟨r1, r2⟩ := q1 hs
      obtain ⟨r3, r4⟩ := g1 hs
      obtain ⟨My, e9, q5⟩ := hb M7 r1
      rw [e9]
      have em : ∀ z, z ≠ 215 → z ≠ 216 → z ≠ 219 → z ≠ 220 → z ≠ 221 → z ≠ 231 → My z = M6 z := fun z h1 h2 h3 h4 h5 h6 => by rw [q5 z h5, q3 z h1 h2 h4 h5, p4 z h1 h2 h3, ho z h6]
      have e5 : ∀ k, k ≠ 7 → k ≠ 0 → My 215 k = M 215 k := fun k h1 h2 => by rw [q5 215 (by decide), q4 k h1, p5 k h2, ho 215 (by decide), g3 215 (by decide) (by decide) (by decide), hi5 215 (by decide)]
      refine ⟨v, My, rfl, ?_, ⟨n, h.act hw hs r3 r4 (r2.mv (by rw [q5 215 (by decide)]) (q5 220 (by decide))) (fun z hz => em z (by omega) (by omega) (by omega) (by omega) (by omega) (by omega)) (by rw [q5 216 (by decide), r1]) e2 (fun k h1 _ => el k h1) (fun z z1 z2 z3 => ?_) (fun z hz => ?_) (fun k hk => e5 k (by omega) (by omega))⟩, fun _ => ⟨rfl, by rw [q5 215 (by decide), q0]⟩, fun z => by (cases z)⟩
      · rw [q5 231 (by decide), q3 231 (by decide) (by decide) (by decide) (by decide), p4 231 (by decide) (by decide) (by decide)]
      · rw [g3 z z1 (by omega) (by omega), hq.1 z z2 (by omega)]
      · rw [em z (by omega) (by omega) (by omega) (by omega) (by omega) (by omega), g3 z (by omega) (by omega) (by omega), hi5 z (by omega)]
