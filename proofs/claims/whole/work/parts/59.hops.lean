/-! hours, soon, ahead, trial, span -/
theorem S8.nat {s : Int32} (h : S8 s) : ∃ k, k < 256 ∧ s = nI k := by
  refine ⟨s.toBitVec.toNat, ?_, ?_⟩
  · have : s.toBitVec.toNat < 2 ^ 8 := Nat.lt_pow_two_of_testBit _ fun i hi => by
      by_cases h32 : i < 32
      · exact h i hi h32
      · exact BitVec.getLsbD_of_ge s.toBitVec i (by omega)
    exact this
  · apply Int32.toBitVec.inj
    show s.toBitVec = BitVec.ofNat 32 s.toBitVec.toNat
    rw [BitVec.ofNat_toNat, BitVec.setWidth_eq]
theorem bc_cnt {s : Int32} (h : S8 s) : bc s = nI (cntK s 8) := by
  obtain ⟨k, hk, rfl⟩ := h.nat
  exact (by decide +kernel : ∀ k, k < 256 → bc (nI k) = nI (cntK (nI k) 8)) k hk
def hrsW (n : Nat) (W : Nat → Int32) (dr : Bool) : Nat → Nat → Int32
  | 0 => W
  | k + 1 => hourW n (hrsW n W dr k) dr
def hrsF (n : Nat) (W : Nat → Int32) (dr : Bool) : Nat → Nat
  | 0 => 0
  | k + 1 => hrsF n W dr k + hourF n (hrsW n W dr k) dr
section
variable {n : Nat} {W : Nat → Int32}
theorem hour_g (h8 : n ≤ 8) {dr : Bool} {k : Nat} (h3 : k ≠ 3) (h4 : k ≠ 4) (h6 : k ≠ 6) (h7 : k ≠ 7) (hk : k < 8 ∨ 424 ≤ k) : hourW n W dr k = W k := by
  unfold hourW
  rw [hr_o h3 h4]
  unfold falW
  rw [fW_h h8 h6 hk, pre_o h8 h7 (by omega)]
theorem hrs_g (h8 : n ≤ 8) {dr : Bool} {k : Nat} (h3 : k ≠ 3) (h4 : k ≠ 4) (h6 : k ≠ 6) (h7 : k ≠ 7) (hk : k < 8 ∨ 424 ≤ k) : ∀ m, hrsW n W dr m k = W k := by
  intro m
  induction m with
  | zero => rfl
  | succ m ih => show hourW n (hrsW n W dr m) dr k = _; rw [hour_g h8 h3 h4 h6 h7 hk, ih]
theorem LW.hrs {M : mM} {lo : Nat} (hL : LW W M lo) (h8 : n ≤ 8) {dr : Bool} (m : Nat) : LW (hrsW n W dr m) M lo := hL.eq2 (hrs_g h8 (by decide) (by decide) (by decide) (by decide) (by decide) m) (fun k h1 _ => hrs_g h8 (by omega) (by omega) (by omega) (by omega) (by omega) m)
theorem WF.hrs (hw : WF n W) {M : mM} {lo : Nat} (hL : LW W M lo) {dr : Bool} : ∀ m, WF n (hrsW n W dr m) := by
  intro m
  induction m with
  | zero => exact hw
  | succ m ih => exact ih.hour (hL.hrs hw.2.1 m)
theorem hrs_st (h8 : n ≤ 8) (h0 : stB n W (fun _ => 0) = true) {dr : Bool} : ∀ m, stB n (hrsW n W dr m) (fun _ => 0) = true := by
  intro m
  cases m with
  | zero => exact h0
  | succ m => exact hour_st h8
theorem C_hours (hw : WF n W) {M : mM} {o lo m : Nat} {dr : Bool} (hm : m ≤ 60) (h : TS n W M o) (hL : LW W M lo) (hl : mLwB lo = true) (hT : mTwB o = true) (hsep : o + 11 < lo ∨ lo + 5 < o) : ∃ M1, f_X9_passHours o lo (nI m) dr M = some (nI (hrsF n W dr m), M1) ∧ TS n (hrsW n W dr m) M1 o ∧ ∀ z, (z < o ∨ o + 11 < z) → z ≠ lo + 5 → M1 z = M z := by
  have h8 := hw.2.1
  unfold f_X9_passHours f_X9_passHours_l4
  rw [gd_t hT, gd_t hl]
  refine wh_V (fun k (q : Int32 × Int32 × mM) => q.1 = nI (hrsF n W dr k) ∧ q.2.1 = nI k ∧ TS n (hrsW n W dr k) q.2.2 o ∧ ∀ z, (z < o ∨ o + 11 < z) → z ≠ lo + 5 → q.2.2 z = M z) _ _ m 100000 _ ⟨rfl, rfl, h, fun _ _ _ => rfl⟩ (fun k hk q hq => ?_) (fun q hq => ?_) (by omega)
  · obtain ⟨q1, q2, M'⟩ := q
    obtain ⟨rfl, rfl, g3, g4⟩ := hq
    dsimp only at g3 g4
    have hLk : LW (hrsW n W dr k) M' lo := (hL.hrs h8 k).rf fun j hj => g4 _ (by omega) (by omega)
    obtain ⟨M1, a1, a2, a3⟩ := C_hour (hw.hrs hL k) (dr := dr) g3 hLk hl hT hsep
    refine ⟨(nI (hrsF n W dr (k + 1)), nI (k + 1), M1), ?_, rfl, rfl, a2, fun z z1 z2 => by dsimp only; rw [a3 z z1 z2, g4 z z1 z2]⟩
    show f_X9_passHours_4 o lo (nI m) dr (nI (hrsF n W dr k)) (nI k) M' = _
    unfold f_X9_passHours_4
    rw [i_lit (by omega) hk, cond_false, show decide ((60 : Int32) ≤ nI k) = false from i_lit (a := 60) (by decide) (by omega), cond_false, a1, b2_s, nI_add, i_1]
    rfl
  · obtain ⟨q1, q2, M'⟩ := q
    obtain ⟨rfl, rfl, g3, g4⟩ := hq
    dsimp only at g3 g4
    refine ⟨M', ?_, g3, g4⟩
    show f_X9_passHours_4 o lo (nI m) dr (nI (hrsF n W dr m)) (nI m) M' = _
    unfold f_X9_passHours_4
    rw [i_lee, cond_true]
theorem M_goes (hw : WF n W) {M Mc : mM} {lo m : Nat} {calm : Bool} (hm : m ≤ 60) (h216 : M 216 = W) (hL : LW W Mc lo) : ∃ M1, f_X12_goesOn (nI m) calm M = some (nI (hrsF n W (!calm) m), M1) ∧ M1 216 = hrsW n W (!calm) m ∧ (∀ z, z ≠ 215 → z ≠ 216 → z ≠ 221 → z ≠ 222 → z ≠ 225 → z ≠ 226 → M1 z = M z) ∧ ∀ k, k ≠ 10 → k ≠ 11 → M1 215 k = M 215 k := by
  have h8 := hw.2.1
  unfold f_X12_goesOn f_X12_goesOn_l4
  refine wh_V (fun k (q : Int32 × Int32 × mM) => q.1 = nI (hrsF n W (!calm) k) ∧ q.2.1 = nI k ∧ q.2.2 216 = hrsW n W (!calm) k ∧ (∀ z, z ≠ 215 → z ≠ 216 → z ≠ 221 → z ≠ 222 → z ≠ 225 → z ≠ 226 → q.2.2 z = M z) ∧ ∀ k, k ≠ 10 → k ≠ 11 → q.2.2 215 k = M 215 k) _ _ m 100000 _ ⟨rfl, rfl, h216, fun _ _ _ _ _ _ _ => rfl, fun _ _ _ => rfl⟩ (fun k hk q hq => ?_) (fun q hq => ?_) (by omega)
  · obtain ⟨q1, q2, M'⟩ := q
    obtain ⟨rfl, rfl, g3, g4, g5⟩ := hq
    dsimp only at g3 g4 g5
    obtain ⟨M1, a1, a2, a3, a4⟩ := M_hour (hw.hrs hL k) (calm := calm) g3 (hL.hrs h8 k)
    refine ⟨(nI (hrsF n W (!calm) (k + 1)), nI (k + 1), M1), ?_, rfl, rfl, a2, fun z z1 z2 z3 z4 z5 z6 => by dsimp only; rw [a3 z z1 z2 z3 z4 z5 z6, g4 z z1 z2 z3 z4 z5 z6], fun j j1 j2 => by dsimp only; rw [a4 j j1 j2, g5 j j1 j2]⟩
    show f_X12_goesOn_4 (nI m) calm (nI (hrsF n W (!calm) k)) (nI k) M' = _
    unfold f_X12_goesOn_4
    rw [i_lit (by omega) hk, cond_false, a1, b2_s, nI_add, i_1]
    rfl
  · obtain ⟨q1, q2, M'⟩ := q
    obtain ⟨rfl, rfl, g3, g4, g5⟩ := hq
    dsimp only at g3 g4 g5
    refine ⟨M', ?_, g3, g4, g5⟩
    show f_X12_goesOn_4 (nI m) calm (nI (hrsF n W (!calm) m)) (nI m) M' = _
    unfold f_X12_goesOn_4
    rw [i_lee, cond_true]
end
theorem m_back {N : mM} {W : Nat → Int32} (h219 : ∀ k, k < 424 → N 219 k = W k) (hW : ∀ k, 424 ≤ k → N 216 k = W k) : f_X12_bringsBack N = some ((), rs N 216 W) := by
  rw [m_brings]
  have : va_cpy (N 219) (N 216) 0 0 424 = W := by
    funext k
    by_cases hk : k < 424
    · rw [pk_cpy_in (Nat.zero_le _) (by omega), Nat.zero_add, Nat.sub_zero, h219 k hk]
    · rw [pk_cpy_out (by omega), hW k (by omega)]
  rw [this]
theorem sC_z {z : Nat} (h : sC z = false) : z ≠ 22 ∧ (z < 46 ∨ 58 < z) := ⟨fun e => by (subst e; cases h), sC_hi h⟩
theorem CQ.nx {M M' : mM} (h : ∀ z, z ≠ 22 → (z < 46 ∨ 58 < z) → M' z = M z) : CQ M M' := CQ.of fun z hz => h z (sC_z hz).1 (sC_z hz).2
theorem sM_z {z : Nat} (h : sM z = false) : z ≠ 218 ∧ z ≠ 219 ∧ z ≠ 221 ∧ z ≠ 222 ∧ (z < 224 ∨ 231 < z) := by
  refine ⟨fun e => by (subst e; cases h), fun e => by (subst e; cases h), fun e => by (subst e; cases h), fun e => by (subst e; cases h), Classical.byContradiction fun hc => ?_⟩
  have : sM (224 + (z - 224)) = true := (by decide : ∀ j, j ≤ 7 → sM (224 + j) = true) (z - 224) (by omega)
  rw [show 224 + (z - 224) = z by omega, h] at this
  cases this
/-- rows that the reference writes when it looks ahead -/
theorem RQ.of {M M' : mM} (h : ∀ z, z ≠ 215 → z ≠ 219 → z ≠ 221 → z ≠ 222 → (z < 224 ∨ 231 < z) → M' z = M z) (h5 : ∀ k, (k = 6 ∨ k = 7 ∨ k = 13 ∨ k = 18) → M' 215 k = M 215 k) : RQ M M' := ⟨fun z a b => by
  obtain ⟨z1, z2, z3, z4, z5⟩ := sM_z a
  exact h z b z2 z3 z4 z5, h5⟩
theorem OpA.q {α : Type} {n : Nat} {M : mM} {fc fm : mM → Option (α × mM)} (h : Rl n M) {v : α} {M1 : mM} (hc : fc M = some (v, M1)) (hq : CQ M M1) (hm : Rl n M1 → M1 216 = M 216 → ∃ M2, fm M1 = some (v, M2) ∧ RQ M1 M2) : OpA M fc fm := by
  have h1 := h.cq hq
  obtain ⟨M2, e1, e2⟩ := hm h1 (hq.1 216 rfl (by decide))
  exact ⟨v, M1, M2, hc, e1, n, h1.mq e2⟩
def inB (lo hi : Int32) (x : Int32) : Bool := !decide (x < lo) && !decide (hi < x)
theorem in_B (x lo hi : Int32) : f_X12_in x lo hi = inB lo hi x := by
  unfold f_X12_in inB
  cases decide (x < lo) <;> cases decide (hi < x) <;> rfl
theorem inB_60 {lo : Int32} (h0 : lo = 0 ∨ lo = 1) {x : Int32} (h : inB lo 60 x = true) : ∃ m, m ≤ 60 ∧ x = nI m := by
  unfold inB at h
  rw [Bool.and_eq_true, ← dn, ← dn] at h
  have h1 := of_decide_eq_true h.1
  have h2 := of_decide_eq_true h.2
  have h3 : ¬ x < 0 := fun hc => h1 (by rcases h0 with rfl | rfl; exact hc; exact Int32.lt_trans hc (by decide))
  exact nI_of2 (M := 60) (n := 60) rfl h3 (Int32.not_lt.mp h2)
section
variable {n : Nat} {M : mM}
theorem L17 : mLwB 17 = true := by decide
def tOne (E : Nat) : Int32 := bif Nat.beq E 0 then 1 else 0
def tTwo (E : Nat) : Int32 := bif Nat.beq E 2 then 1 else 0
def tThr (E : Nat) : Int32 := bif Nat.beq E 3 then 1 else 0
theorem C_look {x : Int32} {M : mM} : f_X11_mustBeLookAhead x M = some (bif inB 0 60 x then .inl () else .inr 0, M) := by
  unfold f_X11_mustBeLookAhead f_X11_mustBeLookAhead_7 f_X11_mustBeLookAhead_8 f_X11_mustBeOne inB
  cases decide (x < 0) <;> cases decide ((60 : Int32) < x) <;> rfl
theorem M_look {x : Int32} : f_X12_noAhead x = !inB 0 60 x := by
  unfold f_X12_noAhead
  rw [in_B]
  cases inB 0 60 x <;> rfl
/-- the reference looks ahead, and is brought back -/
theorem m_kp2 {Mo : mM} {W : Nat → Int32} (e : Mo 216 = W) : f_X12_keepsAll Mo = some ((), rs Mo 219 (va_cpy W (Mo 219) 0 0 424)) := by rw [m_keeps, e]
theorem m_219 {Mo N : mM} {W : Nat → Int32} (h : N 219 = rs Mo 219 (va_cpy W (Mo 219) 0 0 424) 219) : ∀ k, k < 424 → N 219 k = W k := fun k hk => by
  rw [h, rs_at, pk_cpy_in (Nat.zero_le _) (by omega), Nat.zero_add, Nat.sub_zero]
theorem Op_hours (h : Rl n M) {x : Int32} : OpT M (f_X11_hours x) (f_X12_hours x) tOne := by
  have h8 := h.h8
  have hC : f_X11_hours x M = f_X11_hours_9 x (inB 1 60 x) M := by
    unfold f_X11_hours f_X11_hours_8 inB
    cases decide (x < 1) <;> cases decide ((60 : Int32) < x) <;> rfl
  have hM : ∀ Mo, f_X12_hours x Mo = f_X12_hours_12 x (!inB 1 60 x) (mst Mo 215 0 0) := fun Mo => by
    unfold f_X12_hours
    rw [wr_e, in_B]
    cases inB 1 60 x
    · rw [cond_false, Bool.not_false]
    · rw [cond_true, Bool.not_true]
  cases hI : inB 1 60 x
  · refine OpT.q h (r := .inr 0) (M1 := M) ?_ CQ.rf (fun Mo e hr => ⟨0, mst (mst Mo 215 0 0) 215 0 1, ?_, rq_thr.1, rq_thr.2.1, rq_thr.2.2, by decide⟩)
    · rw [hC, hI]; rfl
    · rw [hM, hI]
      unfold f_X12_hours_12
      rw [m_tIf]; rfl
  · obtain ⟨m, hm, rfl⟩ := inB_60 (Or.inr rfl) hI
    obtain ⟨y, c, hCp, hMp⟩ := h.ps.out
    obtain ⟨M1, a1, a2, a3⟩ := C_remember hCp h.wf h.st h.ts rfl
    have hL1 : LW (M 216) M1 17 := h.lw.rf fun j hj => a3 _ (by omega) (by omega)
    obtain ⟨M2, b1, b2, b3⟩ := C_hours h.wf (dr := true) hm (h.ts.in216 h8 fun z z1 z2 => a3 z (by omega) (by omega)) hL1 L17 T35 (by decide)
    have hi : ∀ z, 215 ≤ z → M2 z = M z := fun z hz => by rw [b3 z (by omega) (by omega), a3 z (by omega) (by omega)]
    refine ⟨.inl (nI (hrsF n (M 216) true m)), M2, ?_, fun Mo ho => ?_⟩
    · rw [hC, hI]
      unfold f_X11_hours_9 f_X11_mustBeOne
      rw [cond_true, tb_l, a1, b2_s, b1, b2_s]
    · have ei : ∀ z, 215 ≤ z → z ≠ 231 → Mo z = M z := fun z h1 h2 => by rw [ho z h2, hi z h1]
      generalize hN : mst Mo 215 0 0 = N
      have N216 : N 216 = M 216 := by rw [← hN, mst_no (by decide), ei 216 (by decide) (by decide)]
      have N7 : N 215 7 = M 215 7 := by rw [← hN, mst_nk (by decide), ei 215 (by decide) (by decide)]
      have N220 : N 220 = M 220 := by rw [← hN, mst_no (by decide), ei 220 (by decide) (by decide)]
      obtain ⟨M3, c1, c2, c3, c4⟩ := m_remembers (M := rs N 219 (va_cpy (M 216) (N 219) 0 0 424)) hCp.2.1 (hMp.mv (by rw [rs_ne (by decide), N7]) (by rw [rs_ne (by decide), N220]))
      obtain ⟨M4, d1, d2, d3, d4⟩ := M_goes h.wf (calm := false) hm (M := M3) (by rw [c3 216 (by decide) (by decide), rs_ne (by decide), N216]) hL1
      have e4 : ∀ z, z ≠ 215 → z ≠ 216 → z ≠ 219 → z ≠ 220 → z ≠ 221 → z ≠ 222 → z ≠ 225 → z ≠ 226 → M4 z = Mo z := fun z z1 z2 z3 z4 z5 z6 z7 z8 => by rw [d3 z z1 z2 z5 z6 z7 z8, c3 z z1 z4, rs_ne z3, ← hN, mst_no z1]
      have e5 : ∀ k, k ≠ 0 → k ≠ 7 → k ≠ 10 → k ≠ 11 → M4 215 k = M 215 k := fun k k1 k2 k3 k4 => by rw [d4 k k3 k4, c4 k k2, rs_ne (by decide), ← hN, mst_nk k1, ei 215 (by decide) (by decide)]
      refine ⟨nI (hrsF n (M 216) true m), M4, ?_, e4 231 (by decide) (by decide) (by decide) (by decide) (by decide) (by decide) (by decide) (by decide), ⟨n, ?_⟩, rfl, ?_⟩
      · rw [hM, hI, hN]
        unfold f_X12_hours_12
        rw [Bool.not_true, m_tIf, b2_s, cond_false, cond_false, m_kp2 N216, b2_s, c1, b2_s, d1]
        rfl
      · have hps : PsM M4 (min 12 (c + 1)) (PsV (M 216) (pW M c)) := by
          refine (c2.mv (d4 7 (by decide) (by decide)) (d3 220 (by decide) (by decide) (by decide) (by decide) (by decide) (by decide))).cg fun j hj k hk => ?_
          match j with
          | 0 =>
            show M 216 k = rs N 219 _ 219 k
            rw [rs_at, pk_cpy_in (Nat.zero_le _) (by omega), Nat.zero_add, Nat.sub_zero]
          | j + 1 => rfl
        refine h.act (h.wf.hrs h.lw m) (hrs_st h8 h.st m) b2 (a2.mv fun z hz => b3 z (by omega) (by omega)) hps (fun z hz => ?_) d2 (hrs_g h8 (by decide) (by decide) (by decide) (by decide) (by decide) m) (fun k k1 _ => hrs_g h8 (by omega) (by omega) (by omega) (by omega) (by omega) m) (fun z z1 z2 z3 => ?_) (fun z hz => ?_) (fun k hk => e5 k (by omega) (by omega) (by omega) (by omega))
        · rw [e4 z (by omega) (by omega) (by omega) (by omega) (by omega) (by omega) (by omega) (by omega), ho z (by omega)]
        · rw [b3 z (by omega) (sC_z z2).1, a3 z z1 (by omega)]
        · rw [e4 z (by omega) (by omega) (by omega) (by omega) (by omega) (by omega) (by omega) (by omega), ei z (by omega) (by omega)]
      · rw [d4 0 (by decide) (by decide), c4 0 (by decide), rs_ne (by decide), ← hN, mst_oo]
end
