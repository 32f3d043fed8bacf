/-! person -/
theorem swP_of (x : Int32) : (∃ j, j < 14 ∧ x = nI j) ∨ (swN x 0 14 = 14 ∧ inB 0 13 x = false) := by
  by_cases h : 0 ≤ x.toInt ∧ x.toInt < 14
  · refine Or.inl ⟨x.toInt.toNat, by omega, ?_⟩
    apply Int32.toInt_inj.mp
    rw [i_toInt (by omega)]
    omega
  · refine Or.inr ⟨if_pos (by omega), ?_⟩
    unfold inB
    by_cases h0 : x < 0
    · rw [decide_eq_true h0]; rfl
    · rw [Int32.lt_iff_toInt_lt, show (0 : Int32).toInt = 0 from rfl] at h0
      rw [decide_eq_true (show (13 : Int32) < x by rw [Int32.lt_iff_toInt_lt, show (13 : Int32).toInt = 13 from rfl]; omega), Bool.not_true, Bool.and_false]
theorem sm_nI (f : Nat → Nat) : ∀ k, sm (fun p => nI (f p)) k = nI (sN f k) := by
  intro k
  induction k with
  | zero => rfl
  | succ k ih => rw [sm_s, sN_s, ih, nI_add]
section
variable {n : Nat} {M : mM}
theorem M_sumB2 {W : Nat → Int32} {M : mM} (hn : W 0 = nI n) (h8 : n ≤ 8) (e : M 216 = W) : ∃ M2, f_X12_borneByAll M = some (sumB n W, M2) ∧ (∀ z, z ≠ 221 → M2 z = M z) ∧ ∀ p, p < 8 → M2 221 p = rCar n W (fun _ => 0) p := by
  subst e
  unfold f_X12_borneByAll sumB
  rw [m_lays hn h8, b2_s, sm_n (n := n) (fun k h1 h2 => rCar_off h1 h2) h8]
  refine ⟨rs M 221 (rCar n (M 216) (M 221)), ?_, fun z hz => rs_ne hz, fun p hp => by rw [rs_at]; exact rCar_in hp⟩
  unfold f_X12_borneByAll_l6
  refine wh_ne (fun k => (sm (fun p => rCar n (M 216) (fun _ => 0) p) k, nI k)) n _ (by omega) rfl (fun k hk => ?_) ?_
  · show f_X12_borneByAll_6 _ (nI k) _ = _
    try dsimp only
    unfold f_X12_borneByAll_6
    rw [m_ppl (n := n) (by rw [rs_ne (by decide)]; exact hn), b1_s, bif_f (i_len hk h8), gd_t (i_in (show k < 8 by omega) i_28), i_ix (by omega), i_1, rs_at, rCar_in (b' := fun _ => 0) (by omega), sm_s]
  · show f_X12_borneByAll_6 _ (nI n) _ = _
    try dsimp only
    unfold f_X12_borneByAll_6
    rw [m_ppl (n := n) (by rw [rs_ne (by decide)]; exact hn), b1_s, bif_t (i_lee n)]
theorem sumB_n {W : Nat → Int32} (h : SF n W) : ∃ s, s ≤ 63936 ∧ sumB n W = nI s := by
  refine ⟨sN (nLd n W) 8, Nat.le_trans (sN_le (g := fun _ => 7992) fun p hp => ?_) (by decide), ?_⟩
  · have h1 := (ld_n h (b := fun _ => 0) hp).2
    have h2 := wT_le h
    omega
  · unfold sumB
    rw [← sm_nI]
    exact sm_congr fun p hp => (ld_n h hp).1
theorem Cp_0 (h : Rl n M) {p : Int32} (hP : isP n p = true) : f_X11_person p (0 : Int32) M = gd (mIn p 8) (some (.inl (M 36 (ix p)), M)) := by
  unfold f_X11_person
  rw [C_mustP h, hP, cond_true, tb_l, show swN (0 : Int32) 0 14 = 0 from rfl, show decide ((0 : Nat) = 0) = true from rfl, cond_true]
theorem Cp_1 (h : Rl n M) {p : Int32} (hP : isP n p = true) : f_X11_person p (1 : Int32) M = gd (mIn p 8) (some (.inl (M 37 (ix p)), M)) := by
  unfold f_X11_person
  rw [C_mustP h, hP, cond_true, tb_l, show swN (1 : Int32) 0 14 = 1 from rfl, show decide ((1 : Nat) = 0) = false from rfl, cond_false, show decide ((1 : Nat) = 1) = true from rfl, cond_true]
theorem Cp_2 (h : Rl n M) {p : Int32} (hP : isP n p = true) : f_X11_person p (2 : Int32) M = gd (mIn p 8) (some (.inl (M 38 (ix p)), M)) := by
  unfold f_X11_person
  rw [C_mustP h, hP, cond_true, tb_l, show swN (2 : Int32) 0 14 = 2 from rfl, show decide ((2 : Nat) = 0) = false from rfl, cond_false, show decide ((2 : Nat) = 1) = false from rfl, cond_false, show decide ((2 : Nat) = 2) = true from rfl, cond_true]
theorem Cp_3 (h : Rl n M) {p : Int32} (hP : isP n p = true) : f_X11_person p (3 : Int32) M = bif (f_X11_has (M 35 2) p) then (some (.inl (1 : Int32), M)) else (some (.inl (0 : Int32), M)) := by
  unfold f_X11_person
  rw [C_mustP h, hP, cond_true, tb_l, show swN (3 : Int32) 0 14 = 3 from rfl, show decide ((3 : Nat) = 0) = false from rfl, cond_false, show decide ((3 : Nat) = 1) = false from rfl, cond_false, show decide ((3 : Nat) = 2) = false from rfl, cond_false, show decide ((3 : Nat) = 3) = true from rfl, cond_true]
theorem Cp_4 (h : Rl n M) {p : Int32} (hP : isP n p = true) : f_X11_person p (4 : Int32) M = gd (mIn p 8) (some (.inl (M 39 (ix p)), M)) := by
  unfold f_X11_person
  rw [C_mustP h, hP, cond_true, tb_l, show swN (4 : Int32) 0 14 = 4 from rfl, show decide ((4 : Nat) = 0) = false from rfl, cond_false, show decide ((4 : Nat) = 1) = false from rfl, cond_false, show decide ((4 : Nat) = 2) = false from rfl, cond_false, show decide ((4 : Nat) = 3) = false from rfl, cond_false, show decide ((4 : Nat) = 4) = true from rfl, cond_true]
theorem Cp_5 (h : Rl n M) {p : Int32} (hP : isP n p = true) : f_X11_person p (5 : Int32) M = bif (f_X11_has (M 35 1) p) then (some (.inl (1 : Int32), M)) else (some (.inl (0 : Int32), M)) := by
  unfold f_X11_person
  rw [C_mustP h, hP, cond_true, tb_l, show swN (5 : Int32) 0 14 = 5 from rfl, show decide ((5 : Nat) = 0) = false from rfl, cond_false, show decide ((5 : Nat) = 1) = false from rfl, cond_false, show decide ((5 : Nat) = 2) = false from rfl, cond_false, show decide ((5 : Nat) = 3) = false from rfl, cond_false, show decide ((5 : Nat) = 4) = false from rfl, cond_false, show decide ((5 : Nat) = 5) = true from rfl, cond_true]
theorem Cp_6 (h : Rl n M) {p : Int32} (hP : isP n p = true) : f_X11_person p (6 : Int32) M = bif (f_X11_has (M 35 1) p) then (gd (mIn p 8) (some (.inl (M 40 (ix p)), M))) else (some (.inl (-1 : Int32), M)) := by
  unfold f_X11_person
  rw [C_mustP h, hP, cond_true, tb_l, show swN (6 : Int32) 0 14 = 6 from rfl, show decide ((6 : Nat) = 0) = false from rfl, cond_false, show decide ((6 : Nat) = 1) = false from rfl, cond_false, show decide ((6 : Nat) = 2) = false from rfl, cond_false, show decide ((6 : Nat) = 3) = false from rfl, cond_false, show decide ((6 : Nat) = 4) = false from rfl, cond_false, show decide ((6 : Nat) = 5) = false from rfl, cond_false, show decide ((6 : Nat) = 6) = true from rfl, cond_true]
theorem Cp_7 (h : Rl n M) {p : Int32} (hP : isP n p = true) : f_X11_person p (7 : Int32) M = gd (mIn p 8) (some (.inl (M 41 (ix p)), M)) := by
  unfold f_X11_person
  rw [C_mustP h, hP, cond_true, tb_l, show swN (7 : Int32) 0 14 = 7 from rfl, show decide ((7 : Nat) = 0) = false from rfl, cond_false, show decide ((7 : Nat) = 1) = false from rfl, cond_false, show decide ((7 : Nat) = 2) = false from rfl, cond_false, show decide ((7 : Nat) = 3) = false from rfl, cond_false, show decide ((7 : Nat) = 4) = false from rfl, cond_false, show decide ((7 : Nat) = 5) = false from rfl, cond_false, show decide ((7 : Nat) = 6) = false from rfl, cond_false, show decide ((7 : Nat) = 7) = true from rfl, cond_true]
theorem Cp_8 (h : Rl n M) {p : Int32} (hP : isP n p = true) : f_X11_person p (8 : Int32) M = gd (mIn p 8) (some (.inl (M 42 (ix p)), M)) := by
  unfold f_X11_person
  rw [C_mustP h, hP, cond_true, tb_l, show swN (8 : Int32) 0 14 = 8 from rfl, show decide ((8 : Nat) = 0) = false from rfl, cond_false, show decide ((8 : Nat) = 1) = false from rfl, cond_false, show decide ((8 : Nat) = 2) = false from rfl, cond_false, show decide ((8 : Nat) = 3) = false from rfl, cond_false, show decide ((8 : Nat) = 4) = false from rfl, cond_false, show decide ((8 : Nat) = 5) = false from rfl, cond_false, show decide ((8 : Nat) = 6) = false from rfl, cond_false, show decide ((8 : Nat) = 7) = false from rfl, cond_false, show decide ((8 : Nat) = 8) = true from rfl, cond_true]
theorem Cp_9 (h : Rl n M) {p : Int32} (hP : isP n p = true) : f_X11_person p (9 : Int32) M = b2 (f_X0_amountOf 17 (0 : Int32) 35 p M) (fun v24 M24 => some (.inl v24, M24)) := by
  unfold f_X11_person
  rw [C_mustP h, hP, cond_true, tb_l, show swN (9 : Int32) 0 14 = 9 from rfl, show decide ((9 : Nat) = 0) = false from rfl, cond_false, show decide ((9 : Nat) = 1) = false from rfl, cond_false, show decide ((9 : Nat) = 2) = false from rfl, cond_false, show decide ((9 : Nat) = 3) = false from rfl, cond_false, show decide ((9 : Nat) = 4) = false from rfl, cond_false, show decide ((9 : Nat) = 5) = false from rfl, cond_false, show decide ((9 : Nat) = 6) = false from rfl, cond_false, show decide ((9 : Nat) = 7) = false from rfl, cond_false, show decide ((9 : Nat) = 8) = false from rfl, cond_false, show decide ((9 : Nat) = 9) = true from rfl, cond_true]
theorem Cp_10 (h : Rl n M) {p : Int32} (hP : isP n p = true) : f_X11_person p (10 : Int32) M = b2 (f_X0_amountOf 17 (1 : Int32) 35 p M) (fun v26 M26 => some (.inl v26, M26)) := by
  unfold f_X11_person
  rw [C_mustP h, hP, cond_true, tb_l, show swN (10 : Int32) 0 14 = 10 from rfl, show decide ((10 : Nat) = 0) = false from rfl, cond_false, show decide ((10 : Nat) = 1) = false from rfl, cond_false, show decide ((10 : Nat) = 2) = false from rfl, cond_false, show decide ((10 : Nat) = 3) = false from rfl, cond_false, show decide ((10 : Nat) = 4) = false from rfl, cond_false, show decide ((10 : Nat) = 5) = false from rfl, cond_false, show decide ((10 : Nat) = 6) = false from rfl, cond_false, show decide ((10 : Nat) = 7) = false from rfl, cond_false, show decide ((10 : Nat) = 8) = false from rfl, cond_false, show decide ((10 : Nat) = 9) = false from rfl, cond_false, show decide ((10 : Nat) = 10) = true from rfl, cond_true]
theorem Cp_11 (h : Rl n M) {p : Int32} (hP : isP n p = true) : f_X11_person p (11 : Int32) M = b2 (f_X0_amountOf 17 (2 : Int32) 35 p M) (fun v28 M28 => some (.inl v28, M28)) := by
  unfold f_X11_person
  rw [C_mustP h, hP, cond_true, tb_l, show swN (11 : Int32) 0 14 = 11 from rfl, show decide ((11 : Nat) = 0) = false from rfl, cond_false, show decide ((11 : Nat) = 1) = false from rfl, cond_false, show decide ((11 : Nat) = 2) = false from rfl, cond_false, show decide ((11 : Nat) = 3) = false from rfl, cond_false, show decide ((11 : Nat) = 4) = false from rfl, cond_false, show decide ((11 : Nat) = 5) = false from rfl, cond_false, show decide ((11 : Nat) = 6) = false from rfl, cond_false, show decide ((11 : Nat) = 7) = false from rfl, cond_false, show decide ((11 : Nat) = 8) = false from rfl, cond_false, show decide ((11 : Nat) = 9) = false from rfl, cond_false, show decide ((11 : Nat) = 10) = false from rfl, cond_false, show decide ((11 : Nat) = 11) = true from rfl, cond_true]
theorem Cp_12 (h : Rl n M) {p : Int32} (hP : isP n p = true) : f_X11_person p (12 : Int32) M = b1 (f_X9_holders 35 M) (fun v30 => bif (f_X11_has v30 p) then (b1 (f_X9_spare 35 p M) (fun v33 => some (.inl v33, M))) else (some (.inl (0 : Int32), M))) := by
  unfold f_X11_person
  rw [C_mustP h, hP, cond_true, tb_l, show swN (12 : Int32) 0 14 = 12 from rfl, show decide ((12 : Nat) = 0) = false from rfl, cond_false, show decide ((12 : Nat) = 1) = false from rfl, cond_false, show decide ((12 : Nat) = 2) = false from rfl, cond_false, show decide ((12 : Nat) = 3) = false from rfl, cond_false, show decide ((12 : Nat) = 4) = false from rfl, cond_false, show decide ((12 : Nat) = 5) = false from rfl, cond_false, show decide ((12 : Nat) = 6) = false from rfl, cond_false, show decide ((12 : Nat) = 7) = false from rfl, cond_false, show decide ((12 : Nat) = 8) = false from rfl, cond_false, show decide ((12 : Nat) = 9) = false from rfl, cond_false, show decide ((12 : Nat) = 10) = false from rfl, cond_false, show decide ((12 : Nat) = 11) = false from rfl, cond_false, show decide ((12 : Nat) = 12) = true from rfl, cond_true]
theorem Cp_13 (h : Rl n M) {p : Int32} (hP : isP n p = true) : f_X11_person p (13 : Int32) M = b1 (f_X11_shareOf p M) (fun v35 => some (.inl v35, M)) := by
  unfold f_X11_person
  rw [C_mustP h, hP, cond_true, tb_l, show swN (13 : Int32) 0 14 = 13 from rfl, show decide ((13 : Nat) = 0) = false from rfl, cond_false, show decide ((13 : Nat) = 1) = false from rfl, cond_false, show decide ((13 : Nat) = 2) = false from rfl, cond_false, show decide ((13 : Nat) = 3) = false from rfl, cond_false, show decide ((13 : Nat) = 4) = false from rfl, cond_false, show decide ((13 : Nat) = 5) = false from rfl, cond_false, show decide ((13 : Nat) = 6) = false from rfl, cond_false, show decide ((13 : Nat) = 7) = false from rfl, cond_false, show decide ((13 : Nat) = 8) = false from rfl, cond_false, show decide ((13 : Nat) = 9) = false from rfl, cond_false, show decide ((13 : Nat) = 10) = false from rfl, cond_false, show decide ((13 : Nat) = 11) = false from rfl, cond_false, show decide ((13 : Nat) = 12) = false from rfl, cond_false, show decide ((13 : Nat) = 13) = true from rfl, cond_true]
theorem Cp_14 (h : Rl n M) {p : Int32} (hP : isP n p = true) {q : Int32} (hq : swN q 0 14 = 14) : f_X11_person p q M = some (.inr 3, M) := by
  unfold f_X11_person
  rw [C_mustP h, hP, cond_true, tb_l, hq, show decide ((14 : Nat) = 0) = false from rfl, cond_false, show decide ((14 : Nat) = 1) = false from rfl, cond_false, show decide ((14 : Nat) = 2) = false from rfl, cond_false, show decide ((14 : Nat) = 3) = false from rfl, cond_false, show decide ((14 : Nat) = 4) = false from rfl, cond_false, show decide ((14 : Nat) = 5) = false from rfl, cond_false, show decide ((14 : Nat) = 6) = false from rfl, cond_false, show decide ((14 : Nat) = 7) = false from rfl, cond_false, show decide ((14 : Nat) = 8) = false from rfl, cond_false, show decide ((14 : Nat) = 9) = false from rfl, cond_false, show decide ((14 : Nat) = 10) = false from rfl, cond_false, show decide ((14 : Nat) = 11) = false from rfl, cond_false, show decide ((14 : Nat) = 12) = false from rfl, cond_false, show decide ((14 : Nat) = 13) = false from rfl, cond_false]
theorem Mp_0 {N : mM} {p : Int32} : f_X12_person_19 p 0 false N = b1 (f_X12_of p (0 : Int32) N) (fun v24 => some (v24, N)) := by
  unfold f_X12_person_19
  rw [m_tIf, b2_s, cond_false, cond_false, show swN (0 : Int32) 5 9 = 9 from rfl, show decide ((9 : Nat) = 0) = false from rfl, cond_false, show decide ((9 : Nat) = 1) = false from rfl, cond_false, show decide ((9 : Nat) = 2) = false from rfl, cond_false, show decide ((9 : Nat) = 3) = false from rfl, cond_false, show decide ((9 : Nat) = 4) = false from rfl, cond_false, show decide ((9 : Nat) = 5) = false from rfl, cond_false, show decide ((9 : Nat) = 6) = false from rfl, cond_false, show decide ((9 : Nat) = 7) = false from rfl, cond_false, show decide ((9 : Nat) = 8) = false from rfl, cond_false]
theorem Mp_1 {N : mM} {p : Int32} : f_X12_person_19 p 1 false N = b1 (f_X12_of p (1 : Int32) N) (fun v24 => some (v24, N)) := by
  unfold f_X12_person_19
  rw [m_tIf, b2_s, cond_false, cond_false, show swN (1 : Int32) 5 9 = 9 from rfl, show decide ((9 : Nat) = 0) = false from rfl, cond_false, show decide ((9 : Nat) = 1) = false from rfl, cond_false, show decide ((9 : Nat) = 2) = false from rfl, cond_false, show decide ((9 : Nat) = 3) = false from rfl, cond_false, show decide ((9 : Nat) = 4) = false from rfl, cond_false, show decide ((9 : Nat) = 5) = false from rfl, cond_false, show decide ((9 : Nat) = 6) = false from rfl, cond_false, show decide ((9 : Nat) = 7) = false from rfl, cond_false, show decide ((9 : Nat) = 8) = false from rfl, cond_false]
theorem Mp_2 {N : mM} {p : Int32} : f_X12_person_19 p 2 false N = b1 (f_X12_of p (2 : Int32) N) (fun v24 => some (v24, N)) := by
  unfold f_X12_person_19
  rw [m_tIf, b2_s, cond_false, cond_false, show swN (2 : Int32) 5 9 = 9 from rfl, show decide ((9 : Nat) = 0) = false from rfl, cond_false, show decide ((9 : Nat) = 1) = false from rfl, cond_false, show decide ((9 : Nat) = 2) = false from rfl, cond_false, show decide ((9 : Nat) = 3) = false from rfl, cond_false, show decide ((9 : Nat) = 4) = false from rfl, cond_false, show decide ((9 : Nat) = 5) = false from rfl, cond_false, show decide ((9 : Nat) = 6) = false from rfl, cond_false, show decide ((9 : Nat) = 7) = false from rfl, cond_false, show decide ((9 : Nat) = 8) = false from rfl, cond_false]
theorem Mp_3 {N : mM} {p : Int32} : f_X12_person_19 p 3 false N = b1 (f_X12_of p (3 : Int32) N) (fun v24 => some (v24, N)) := by
  unfold f_X12_person_19
  rw [m_tIf, b2_s, cond_false, cond_false, show swN (3 : Int32) 5 9 = 9 from rfl, show decide ((9 : Nat) = 0) = false from rfl, cond_false, show decide ((9 : Nat) = 1) = false from rfl, cond_false, show decide ((9 : Nat) = 2) = false from rfl, cond_false, show decide ((9 : Nat) = 3) = false from rfl, cond_false, show decide ((9 : Nat) = 4) = false from rfl, cond_false, show decide ((9 : Nat) = 5) = false from rfl, cond_false, show decide ((9 : Nat) = 6) = false from rfl, cond_false, show decide ((9 : Nat) = 7) = false from rfl, cond_false, show decide ((9 : Nat) = 8) = false from rfl, cond_false]
theorem Mp_4 {N : mM} {p : Int32} : f_X12_person_19 p 4 false N = b1 (f_X12_of p (4 : Int32) N) (fun v24 => some (v24, N)) := by
  unfold f_X12_person_19
  rw [m_tIf, b2_s, cond_false, cond_false, show swN (4 : Int32) 5 9 = 9 from rfl, show decide ((9 : Nat) = 0) = false from rfl, cond_false, show decide ((9 : Nat) = 1) = false from rfl, cond_false, show decide ((9 : Nat) = 2) = false from rfl, cond_false, show decide ((9 : Nat) = 3) = false from rfl, cond_false, show decide ((9 : Nat) = 4) = false from rfl, cond_false, show decide ((9 : Nat) = 5) = false from rfl, cond_false, show decide ((9 : Nat) = 6) = false from rfl, cond_false, show decide ((9 : Nat) = 7) = false from rfl, cond_false, show decide ((9 : Nat) = 8) = false from rfl, cond_false]
theorem Mp_5 {N : mM} {p : Int32} : f_X12_person_19 p 5 false N = b1 (f_X12_isUp p N) (fun v4 => bif v4 then (some ((1 : Int32), N)) else (some ((0 : Int32), N))) := by
  unfold f_X12_person_19
  rw [m_tIf, b2_s, cond_false, cond_false, show swN (5 : Int32) 5 9 = 0 from rfl, show decide ((0 : Nat) = 0) = true from rfl, cond_true]
theorem Mp_6 {N : mM} {p : Int32} : f_X12_person_19 p 6 false N = b1 (f_X12_of p (5 : Int32) N) (fun v7 => some (v7, N)) := by
  unfold f_X12_person_19
  rw [m_tIf, b2_s, cond_false, cond_false, show swN (6 : Int32) 5 9 = 1 from rfl, show decide ((1 : Nat) = 0) = false from rfl, cond_false, show decide ((1 : Nat) = 1) = true from rfl, cond_true]
theorem Mp_7 {N : mM} {p : Int32} : f_X12_person_19 p 7 false N = b1 (f_X12_of p (6 : Int32) N) (fun v9 => some (v9, N)) := by
  unfold f_X12_person_19
  rw [m_tIf, b2_s, cond_false, cond_false, show swN (7 : Int32) 5 9 = 2 from rfl, show decide ((2 : Nat) = 0) = false from rfl, cond_false, show decide ((2 : Nat) = 1) = false from rfl, cond_false, show decide ((2 : Nat) = 2) = true from rfl, cond_true]
theorem Mp_8 {N : mM} {p : Int32} : f_X12_person_19 p 8 false N = b2 (f_X12_borneBy p N) (fun v11 M11 => some (v11, M11)) := by
  unfold f_X12_person_19
  rw [m_tIf, b2_s, cond_false, cond_false, show swN (8 : Int32) 5 9 = 3 from rfl, show decide ((3 : Nat) = 0) = false from rfl, cond_false, show decide ((3 : Nat) = 1) = false from rfl, cond_false, show decide ((3 : Nat) = 2) = false from rfl, cond_false, show decide ((3 : Nat) = 3) = true from rfl, cond_true]
theorem Mp_9 {N : mM} {p : Int32} : f_X12_person_19 p 9 false N = b2 (f_X12_byLaw (0 : Int32) p N) (fun v13 M13 => some (v13, M13)) := by
  unfold f_X12_person_19
  rw [m_tIf, b2_s, cond_false, cond_false, show swN (9 : Int32) 5 9 = 4 from rfl, show decide ((4 : Nat) = 0) = false from rfl, cond_false, show decide ((4 : Nat) = 1) = false from rfl, cond_false, show decide ((4 : Nat) = 2) = false from rfl, cond_false, show decide ((4 : Nat) = 3) = false from rfl, cond_false, show decide ((4 : Nat) = 4) = true from rfl, cond_true]
theorem Mp_10 {N : mM} {p : Int32} : f_X12_person_19 p 10 false N = b2 (f_X12_byLaw (1 : Int32) p N) (fun v15 M15 => some (v15, M15)) := by
  unfold f_X12_person_19
  rw [m_tIf, b2_s, cond_false, cond_false, show swN (10 : Int32) 5 9 = 5 from rfl, show decide ((5 : Nat) = 0) = false from rfl, cond_false, show decide ((5 : Nat) = 1) = false from rfl, cond_false, show decide ((5 : Nat) = 2) = false from rfl, cond_false, show decide ((5 : Nat) = 3) = false from rfl, cond_false, show decide ((5 : Nat) = 4) = false from rfl, cond_false, show decide ((5 : Nat) = 5) = true from rfl, cond_true]
theorem Mp_11 {N : mM} {p : Int32} : f_X12_person_19 p 11 false N = b2 (f_X12_byLaw (2 : Int32) p N) (fun v17 M17 => some (v17, M17)) := by
  unfold f_X12_person_19
  rw [m_tIf, b2_s, cond_false, cond_false, show swN (11 : Int32) 5 9 = 6 from rfl, show decide ((6 : Nat) = 0) = false from rfl, cond_false, show decide ((6 : Nat) = 1) = false from rfl, cond_false, show decide ((6 : Nat) = 2) = false from rfl, cond_false, show decide ((6 : Nat) = 3) = false from rfl, cond_false, show decide ((6 : Nat) = 4) = false from rfl, cond_false, show decide ((6 : Nat) = 5) = false from rfl, cond_false, show decide ((6 : Nat) = 6) = true from rfl, cond_true]
theorem Mp_12 {N : mM} {p : Int32} : f_X12_person_19 p 12 false N = b1 (f_X12_holds p N) (fun v19 => bif v19 then (b2 (f_X12_spareOf p N) (fun v21 M21 => some (v21, M21))) else (some ((0 : Int32), N))) := by
  unfold f_X12_person_19
  rw [m_tIf, b2_s, cond_false, cond_false, show swN (12 : Int32) 5 9 = 7 from rfl, show decide ((7 : Nat) = 0) = false from rfl, cond_false, show decide ((7 : Nat) = 1) = false from rfl, cond_false, show decide ((7 : Nat) = 2) = false from rfl, cond_false, show decide ((7 : Nat) = 3) = false from rfl, cond_false, show decide ((7 : Nat) = 4) = false from rfl, cond_false, show decide ((7 : Nat) = 5) = false from rfl, cond_false, show decide ((7 : Nat) = 6) = false from rfl, cond_false, show decide ((7 : Nat) = 7) = true from rfl, cond_true]
theorem Mp_13 {N : mM} {p : Int32} : f_X12_person_19 p 13 false N = b2 (f_X12_shareOf p N) (fun v23 M23 => some (v23, M23)) := by
  unfold f_X12_person_19
  rw [m_tIf, b2_s, cond_false, cond_false, show swN (13 : Int32) 5 9 = 8 from rfl, show decide ((8 : Nat) = 0) = false from rfl, cond_false, show decide ((8 : Nat) = 1) = false from rfl, cond_false, show decide ((8 : Nat) = 2) = false from rfl, cond_false, show decide ((8 : Nat) = 3) = false from rfl, cond_false, show decide ((8 : Nat) = 4) = false from rfl, cond_false, show decide ((8 : Nat) = 5) = false from rfl, cond_false, show decide ((8 : Nat) = 6) = false from rfl, cond_false, show decide ((8 : Nat) = 7) = false from rfl, cond_false, show decide ((8 : Nat) = 8) = true from rfl, cond_true]
theorem Mp_e (h : Rl n M) {p q : Int32} (hP : isP n p = true) {Mo : mM} (e : Mo 216 = M 216) : f_X12_person p q Mo = f_X12_person_19 p q (!inB 0 13 q) (mst Mo 215 0 0) := by
  unfold f_X12_person
  rw [wr_e, b1_a (m_nb h e), hP, m_tIf, b2_s, Bool.not_true, cond_false, cond_false, in_B]
  cases inB 0 13 q
  · rw [cond_false, Bool.not_false]
  · rw [cond_true, Bool.not_true]
def tPe (E : Nat) : Int32 := bif Nat.beq E 2 then 1 else bif Nat.beq E 3 then 2 else 0
/-- one that is asked and answered -/
theorem OpT.p (h : Rl n M) {k j : Nat} (hk : k < n) (hj : inB 0 13 (nI j) = true) {v : Int32} {M1 : mM} (hc : f_X11_person (nI k) (nI j) M = some (.inl v, M1)) (hq : CQ M M1) (hm : ∀ N : mM, N 216 = M 216 → ∃ M2, f_X12_person_19 (nI k) (nI j) false N = some (v, M2) ∧ ∀ z, z ≠ 221 → z ≠ 225 → M2 z = N z) : OpT M (f_X11_person (nI k) (nI j)) (f_X12_person (nI k) (nI j)) tPe := by
  refine OpT.q h (r := .inl v) hc hq (fun Mo e hr => ?_)
  obtain ⟨M2, g1, g2⟩ := hm (mst Mo 215 0 0) (by rw [mst_no (by decide), e])
  refine ⟨v, M2, ?_, rq_00.tr (RQ.of (fun z _ _ z3 _ z5 => g2 z z3 (by omega)) fun q _ => by rw [g2 215 (by decide) (by decide)]), by rw [g2 231 (by decide) (by decide), mst_no (by decide)], rfl, by rw [g2 215 (by decide) (by decide), mst_oo]⟩
  rw [Mp_e h (isP_nI h.h8 hk) e, hj, Bool.not_true]
  exact g1
theorem Op_person (h : Rl n M) {p q : Int32} : OpT M (f_X11_person p q) (f_X12_person p q) tPe := by
  have h8 := h.h8
  cases hP : isP n p
  · refine OpT.q h (r := .inr 2) (M1 := M) ?_ CQ.rf (fun Mo e hr => ⟨0, mst (mst Mo 215 0 0) 215 0 1, ?_, rq_thr.1, rq_thr.2.1, rq_thr.2.2, by decide⟩)
    · unfold f_X11_person
      rw [C_mustP h, hP, cond_false, tb_r]
    · unfold f_X12_person
      rw [wr_e, b1_a (m_nb h e), hP, m_tIf, b2_s, Bool.not_false, cond_true, cond_true]
  · rcases swP_of q with ⟨j, hj, rfl⟩ | ⟨s1, s2⟩
    · obtain ⟨k, hk, rfl⟩ := isP_of h8 hP
      have hk8 : k < 8 := by omega
      obtain ⟨t0, t1, t2, t3, t4, t5⟩ := h.tr.pp hk
      have g : ∀ {α : Type} (x : Option α), gd (mIn (nI k) 8) x = x := fun x => gd_t (i_in hk8 i_28)
      have ik : ix (nI k) = k := i_ix (by omega)
      have hu : f_X11_has (M 35 1) (nI k) = upB (M 216) k := by rw [has_hs (by omega), h.up, hs_ups hk8, decide_eq_true hk, Bool.true_and]
      have hl : f_X11_has (M 35 2) (nI k) = slB (M 216) k := by rw [has_hs (by omega), h.as, hs_sls hk8, decide_eq_true hk, Bool.true_and]
      have e42 : M 42 k = rCar n (M 216) (fun _ => 0) k := h.ts.2.2 k hk8
      have of : ∀ (N : mM), N 216 = M 216 → ∀ c, c < 7 → f_X12_of (nI k) (nI c) N = some (pv (M 216) k c) := fun N e c hc => by rw [m_of hk8 hc, e]
      match j, hj with
      | 0, _ => exact OpT.p h hk rfl (v := pv (M 216) k 0) (by rw [show nI 0 = (0 : Int32) from rfl, Cp_0 h hP, g, ik]; exact congrArg (fun z => some (Sum.inl z, M)) t0) CQ.rf (fun N e => ⟨N, by rw [show nI 0 = (0 : Int32) from rfl, Mp_0, b1_a (show f_X12_of (nI k) (0 : Int32) N = _ from of N e 0 (by decide))], fun _ _ _ => rfl⟩)
      | 1, _ => exact OpT.p h hk rfl (v := pv (M 216) k 1) (by rw [show nI 1 = (1 : Int32) from rfl, Cp_1 h hP, g, ik]; exact congrArg (fun z => some (Sum.inl z, M)) t1) CQ.rf (fun N e => ⟨N, by rw [show nI 1 = (1 : Int32) from rfl, Mp_1, b1_a (show f_X12_of (nI k) (1 : Int32) N = _ from of N e 1 (by decide))], fun _ _ _ => rfl⟩)
      | 2, _ => exact OpT.p h hk rfl (v := pv (M 216) k 2) (by rw [show nI 2 = (2 : Int32) from rfl, Cp_2 h hP, g, ik]; exact congrArg (fun z => some (Sum.inl z, M)) t2) CQ.rf (fun N e => ⟨N, by rw [show nI 2 = (2 : Int32) from rfl, Mp_2, b1_a (show f_X12_of (nI k) (2 : Int32) N = _ from of N e 2 (by decide))], fun _ _ _ => rfl⟩)
      | 3, _ =>
        refine OpT.p h hk rfl (v := pv (M 216) k 3) (M1 := M) ?_ CQ.rf (fun N e => ⟨N, by rw [show nI 3 = (3 : Int32) from rfl, Mp_3, b1_a (show f_X12_of (nI k) (3 : Int32) N = _ from of N e 3 (by decide))], fun _ _ _ => rfl⟩)
        rw [show nI 3 = (3 : Int32) from rfl, Cp_3 h hP, hl]
        unfold slB
        rcases h.wf.sl01 hk with e | e <;> rw [e] <;> rfl
      | 4, _ => exact OpT.p h hk rfl (v := pv (M 216) k 4) (by rw [show nI 4 = (4 : Int32) from rfl, Cp_4 h hP, g, ik]; exact congrArg (fun z => some (Sum.inl z, M)) t3) CQ.rf (fun N e => ⟨N, by rw [show nI 4 = (4 : Int32) from rfl, Mp_4, b1_a (show f_X12_of (nI k) (4 : Int32) N = _ from of N e 4 (by decide))], fun _ _ _ => rfl⟩)
      | 5, _ =>
        refine OpT.p h hk rfl (v := mB (upB (M 216) k)) (M1 := M) ?_ CQ.rf (fun N e => ⟨N, ?_, fun _ _ _ => rfl⟩)
        · rw [show nI 5 = (5 : Int32) from rfl, Cp_5 h hP, hu]
          cases upB (M 216) k <;> rfl
        · rw [show nI 5 = (5 : Int32) from rfl, Mp_5, m_isUp hk8, b1_s, e]
          cases upB (M 216) k <;> rfl
      | 6, _ =>
        refine OpT.p h hk rfl (v := pv (M 216) k 5) (M1 := M) ?_ CQ.rf (fun N e => ⟨N, by rw [show nI 6 = (6 : Int32) from rfl, Mp_6, b1_a (show f_X12_of (nI k) (5 : Int32) N = _ from of N e 5 (by decide))], fun _ _ _ => rfl⟩)
        rw [show nI 6 = (6 : Int32) from rfl, Cp_6 h hP, hu]
        cases eu : upB (M 216) k
        · rw [cond_false]
          unfold upB at eu
          cases e5 : decide (pv (M 216) k 5 = -1)
          · rw [e5] at eu; cases eu
          · rw [of_decide_eq_true e5]
        · rw [cond_true, g, ik]
          exact congrArg (fun z => some (Sum.inl z, M)) (t5 eu)
      | 7, _ => exact OpT.p h hk rfl (v := pv (M 216) k 6) (by rw [show nI 7 = (7 : Int32) from rfl, Cp_7 h hP, g, ik]; exact congrArg (fun z => some (Sum.inl z, M)) t4) CQ.rf (fun N e => ⟨N, by rw [show nI 7 = (7 : Int32) from rfl, Mp_7, b1_a (show f_X12_of (nI k) (6 : Int32) N = _ from of N e 6 (by decide))], fun _ _ _ => rfl⟩)
      | 8, _ =>
        refine OpT.p h hk rfl (v := rCar n (M 216) (fun _ => 0) k) (M1 := M) ?_ CQ.rf (fun N e => ?_)
        · rw [show nI 8 = (8 : Int32) from rfl, Cp_8 h hP, g, ik, e42]
        · obtain ⟨M2, g1, g2⟩ := M_brn (W := M 216) (M := N) h.hn h8 e hk8
          exact ⟨M2, by rw [show nI 8 = (8 : Int32) from rfl, Mp_8, b2_a g1], fun z z1 _ => g2 z z1⟩
      | 9, _ =>
        obtain ⟨M1, a1, a2⟩ := C_amount h.wf h.ts h.lw L17 T35 hk (Or.inr (by decide)) (kind := 0) (Or.inl rfl)
        refine OpT.p h hk rfl (v := lawV n (M 216) 0 k) (M1 := M1) ?_ (CQ.of fun z hz => a2 z (sC_z hz).1) (fun N e => ?_)
        · rw [show nI 9 = (9 : Int32) from rfl, Cp_9 h hP, b2_a a1]
        · obtain ⟨M2, b1, b2⟩ := M_byLaw (M := N) (W := M 216) h.wf e h.lw hk (kind := 0) (Or.inl rfl)
          exact ⟨M2, by rw [show nI 9 = (9 : Int32) from rfl, Mp_9, b2_a b1], b2⟩
      | 10, _ =>
        obtain ⟨M1, a1, a2⟩ := C_amount h.wf h.ts h.lw L17 T35 hk (Or.inr (by decide)) (kind := 1) (Or.inr (Or.inl rfl))
        refine OpT.p h hk rfl (v := lawV n (M 216) 1 k) (M1 := M1) ?_ (CQ.of fun z hz => a2 z (sC_z hz).1) (fun N e => ?_)
        · rw [show nI 10 = (10 : Int32) from rfl, Cp_10 h hP, b2_a a1]
        · obtain ⟨M2, b1, b2⟩ := M_byLaw (M := N) (W := M 216) h.wf e h.lw hk (kind := 1) (Or.inr (Or.inl rfl))
          exact ⟨M2, by rw [show nI 10 = (10 : Int32) from rfl, Mp_10, b2_a b1], b2⟩
      | 11, _ =>
        obtain ⟨M1, a1, a2⟩ := C_amount h.wf h.ts h.lw L17 T35 hk (Or.inr (by decide)) (kind := 2) (Or.inr (Or.inr rfl))
        refine OpT.p h hk rfl (v := lawV n (M 216) 2 k) (M1 := M1) ?_ (CQ.of fun z hz => a2 z (sC_z hz).1) (fun N e => ?_)
        · rw [show nI 11 = (11 : Int32) from rfl, Cp_11 h hP, b2_a a1]
        · obtain ⟨M2, b1, b2⟩ := M_byLaw (M := N) (W := M 216) h.wf e h.lw hk (kind := 2) (Or.inr (Or.inr rfl))
          exact ⟨M2, by rw [show nI 11 = (11 : Int32) from rfl, Mp_11, b2_a b1], b2⟩
      | 12, _ =>
        refine OpT.p h hk rfl (v := bif hoB (M 216) k then pv (M 216) k 2 - rCar n (M 216) (fun _ => 0) k else 0) (M1 := M) ?_ CQ.rf (fun N e => ?_)
        · rw [show nI 12 = (12 : Int32) from rfl, Cp_12 h hP, h.ho, b1_s, has_hs (by omega), hs_hos hk8, decide_eq_true hk, Bool.true_and]
          unfold f_X9_spare
          rw [gd_t T35, g, g, b1_s, ik, show M (35 + 3) k = pv (M 216) k 2 from t2, show M (35 + 7) k = rCar n (M 216) (fun _ => 0) k from e42]
          cases hoB (M 216) k
          · rw [cond_false, cond_false]
          · rw [cond_true, cond_true]
        · obtain ⟨M2, g1, g2⟩ := M_brn (W := M 216) (M := N) h.hn h8 e hk8
          rw [show nI 12 = (12 : Int32) from rfl, Mp_12, m_holds hk8, b1_s, e]
          unfold f_X12_spareOf
          rw [b1_a (show f_X12_of (nI k) (2 : Int32) N = _ from of N e 2 (by decide)), b2_a g1, b2_s]
          cases hoB (M 216) k
          · rw [cond_false, cond_false]
            exact ⟨N, rfl, fun _ _ _ => rfl⟩
          · rw [cond_true, cond_true]
            exact ⟨M2, rfl, fun z z1 _ => g2 z z1⟩
      | 13, _ =>
        obtain ⟨s, hs1, hs2⟩ := sumB_n h.wf.sf
        refine OpT.p h hk rfl (v := bif decide (sumB n (M 216) ≤ 0) then 0 else ((100 : Int32) * rCar n (M 216) (fun _ => 0) k) / sumB n (M 216)) (M1 := M) ?_ CQ.rf (fun N e => ?_)
        · rw [show nI 13 = (13 : Int32) from rfl, Cp_13 h hP]
          unfold f_X11_shareOf
          rw [T_sumB h.ts T35, b1_s, g, ik, e42, hs2]
          rw [show decide (nI s ≤ 0) = decide (s ≤ 0) from i_le (b := 0) (by omega) (by decide)]
          by_cases h0 : s ≤ 0
          · rw [decide_eq_true h0, cond_true, cond_true, b1_s]
          · rw [decide_eq_false h0, cond_false, cond_false, gd_t (decide_eq_true (nI_ne0 (by omega) (by omega))), b1_s]
        · rw [show nI 13 = (13 : Int32) from rfl, Mp_13]
          obtain ⟨M2, g1, g2, g3⟩ := M_sumB2 (W := M 216) (M := N) h.hn h8 e
          unfold f_X12_shareOf
          rw [b2_a g1, g, ik, g3 k hk8, hs2]
          refine ⟨M2, ?_, fun z z1 _ => g2 z z1⟩
          rw [show decide (nI s ≤ 0) = decide (s ≤ 0) from i_le (b := 0) (by omega) (by decide), dn]
          by_cases h0 : s = 0
          · subst h0
            rfl
          · rw [decide_eq_false (nI_ne0 (show 0 < s by omega) (by omega)), decide_eq_false (show ¬ s ≤ 0 by omega), Bool.not_false, cond_true, cond_false, gd_t rfl, b2_s]
      | j + 14, hj => omega
    · refine OpT.q h (r := .inr 3) (M1 := M) ?_ CQ.rf (fun Mo e hr => ⟨0, mst (mst Mo 215 0 0) 215 0 2, ?_, rq_thr.1, rq_thr.2.1, rq_thr.2.2, by decide⟩)
      · exact Cp_14 h hP s1
      · rw [Mp_e h hP e, s2]
        unfold f_X12_person_19
        rw [m_tIf, b2_s, Bool.not_false, cond_true, cond_true]
end
