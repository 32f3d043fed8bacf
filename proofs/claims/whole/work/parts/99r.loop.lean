/-! the law's loop -/
theorem and63 (a : Int32) : ∃ t, t < 64 ∧ a &&& (63 : Int32) = nI t := by
  refine ⟨a.toBitVec.toNat &&& 63, Nat.lt_of_le_of_lt Nat.and_le_right (by decide), ?_⟩
  apply Int32.toBitVec_inj.mp
  apply BitVec.eq_of_toNat_eq
  rw [Int32.toBitVec_and, BitVec.toNat_and]
  show a.toBitVec.toNat &&& 63 = (BitVec.ofNat 32 (a.toBitVec.toNat &&& 63)).toNat
  rw [BitVec.toNat_ofNat, Nat.mod_eq_of_lt (Nat.lt_of_le_of_lt Nat.and_le_right (by decide))]
theorem lp_end {x : Int32} {M : mM} {j : Nat} : Gd 1669 x M j := ⟨M, 0, Nat.zero_le _, ev_1 kc_372 y1669 rfl (i' := 1670) (L' := Lw x none none) (st' := [.int (Int32.ofInt 1)]) (M1 := M) rfl (ev_ret kc_372 y1670 rfl rfl)⟩
theorem lp_next {x : Int32} {M : mM} {j : Nat} (h : Gd 13 (x + Int32.ofInt 6) M j) : Gd 1667 x M j := by
  obtain ⟨M', k, hk, hE⟩ := h
  refine ⟨M', k, hk, ?_⟩
  refine ev_1 kc_372 y1667 rfl (i' := 1668) (L' := Lw (x + Int32.ofInt 6) none none) (st' := []) (M1 := M) rfl ?_
  exact ev_1 kc_372 y1668 rfl (i' := 13) (L' := Lw (x + Int32.ofInt 6) none none) (st' := []) (M1 := M) rfl hE
theorem lp_24 {n : Nat} {M : mM} {x : Int32} {j : Nat} (h : Rl n M) (h0 : Z12 M) (hi : ∀ c : Nat, c ≤ 5 → mIn (x + Int32.ofInt c) (M 233 0).toNatClampNeg = true) (hN : ∀ n' M', Rl n' M' → Z12 M' → kpS M M' → Gd 1667 x M' j) : ∀ t, t < 64 → ∃ M' k, k ≤ j + 1 ∧ Ev 100 372 24 (Lw x none none) [.int (nI t)] M (.inl (some 1), M', k) := by
  have key : ∀ (t s : Nat) (ts : List Nat), mSw 7 = 1667 :: ts → decide (swN (nI t) 0 60 = t) = true → Nat.blt t 60 = true → ts[t]? = some s → Gd s x M (j + 1) → ∃ M' k, k ≤ j + 1 ∧ Ev 100 372 24 (Lw x none none) [.int (nI t)] M (.inl (some 1), M', k) := fun t s ts e1 e2 e3 e4 g => by
    obtain ⟨M', k, hk, hE⟩ := g
    exact ⟨M', k, hk, ev_sw kc_372 y24 e1 rfl e2 e3 e4 hE⟩
  have key2 : ∀ (t : Nat) (ts : List Nat), mSw 7 = 1667 :: ts → swN (nI t) 0 60 = 60 → ∃ M' k, k ≤ j + 1 ∧ Ev 100 372 24 (Lw x none none) [.int (nI t)] M (.inl (some 1), M', k) := fun t ts e1 e2 => by
    obtain ⟨M', k, hk, hE⟩ := hN n M h h0 ⟨rfl, rfl⟩
    exact ⟨M', k, by omega, ev_swD kc_372 y24 e1 rfl e2 hE⟩
  intro t ht
  match t, ht with
  | 0, _ => exact key 0 25 _ rfl rfl rfl rfl (bk_0 h h0 hi hN)
  | 1, _ => exact key 1 82 _ rfl rfl rfl rfl (bk_1 h h0 hi hN)
  | 2, _ => exact key 2 99 _ rfl rfl rfl rfl (bk_2 h h0 hi hN)
  | 3, _ => exact key 3 124 _ rfl rfl rfl rfl (bk_3 h h0 hi hN)
  | 4, _ => exact key 4 149 _ rfl rfl rfl rfl (bk_4 h h0 hi hN)
  | 5, _ => exact key 5 156 _ rfl rfl rfl rfl (bk_5 h h0 hi hN)
  | 6, _ => exact key 6 201 _ rfl rfl rfl rfl (bk_6 h h0 hi hN)
  | 7, _ => exact key 7 236 _ rfl rfl rfl rfl (bk_7 h h0 hi hN)
  | 8, _ => exact key 8 291 _ rfl rfl rfl rfl (bk_8 h h0 hi hN)
  | 9, _ => exact key 9 326 _ rfl rfl rfl rfl (bk_9 h h0 hi hN)
  | 10, _ => exact key 10 371 _ rfl rfl rfl rfl (bk_10 h h0 hi hN)
  | 11, _ => exact key 11 416 _ rfl rfl rfl rfl (bk_11 h h0 hi hN)
  | 12, _ => exact key 12 451 _ rfl rfl rfl rfl (bk_12 h h0 hi hN)
  | 13, _ => exact key 13 486 _ rfl rfl rfl rfl (bk_13 h h0 hi hN)
  | 14, _ => exact key 14 521 _ rfl rfl rfl rfl (bk_14 h h0 hi hN)
  | 15, _ => exact key 15 528 _ rfl rfl rfl rfl (bk_15 h h0 hi hN)
  | 16, _ => exact key 16 535 _ rfl rfl rfl rfl (bk_16 h h0 hi hN)
  | 17, _ => exact key 17 542 _ rfl rfl rfl rfl (bk_17 h h0 hi hN)
  | 18, _ => exact key 18 549 _ rfl rfl rfl rfl (bk_18 h h0 hi hN)
  | 19, _ => exact key 19 584 _ rfl rfl rfl rfl (bk_19 h h0 hi hN)
  | 20, _ => exact key 20 591 _ rfl rfl rfl rfl (bk_20 h h0 hi hN)
  | 21, _ => exact key 21 598 _ rfl rfl rfl rfl (bk_21 h h0 hi hN)
  | 22, _ => exact key 22 633 _ rfl rfl rfl rfl (bk_22 h h0 hi hN)
  | 23, _ => exact key 23 668 _ rfl rfl rfl rfl (bk_23 h h0 hi hN)
  | 24, _ => exact key 24 713 _ rfl rfl rfl rfl (bk_24 h h0 hi hN)
  | 25, _ => exact key 25 720 _ rfl rfl rfl rfl (bk_25 h h0 hi hN)
  | 26, _ => exact key 26 727 _ rfl rfl rfl rfl (bk_26 h h0 hi hN)
  | 27, _ => exact key 27 734 _ rfl rfl rfl rfl (bk_27 h h0 hi hN)
  | 28, _ => exact key 28 769 _ rfl rfl rfl rfl (bk_28 h h0 hi hN)
  | 29, _ => exact key 29 794 _ rfl rfl rfl rfl (bk_29 h h0 hi hN)
  | 30, _ => exact key 30 829 _ rfl rfl rfl rfl (bk_30 h h0 hi hN)
  | 31, _ => exact key 31 864 _ rfl rfl rfl rfl (bk_31 h h0 hi hN)
  | 32, _ => exact key 32 899 _ rfl rfl rfl rfl (bk_32 h h0 hi hN)
  | 33, _ => exact key 33 944 _ rfl rfl rfl rfl (bk_33 h h0 hi hN)
  | 34, _ => exact key 34 979 _ rfl rfl rfl rfl (bk_34 h h0 hi hN)
  | 35, _ => exact key 35 1024 _ rfl rfl rfl rfl (bk_35 h h0 hi hN)
  | 36, _ => exact key 36 1059 _ rfl rfl rfl rfl (bk_36 h h0 hi hN)
  | 37, _ => exact key 37 1066 _ rfl rfl rfl rfl (bk_37 h h0 hi hN)
  | 38, _ => exact key 38 1101 _ rfl rfl rfl rfl (bk_38 h h0 hi hN)
  | 39, _ => exact key 39 1156 _ rfl rfl rfl rfl (bk_39 h h0 hi hN)
  | 40, _ => exact key 40 1191 _ rfl rfl rfl rfl (bk_40 h h0 hi hN)
  | 41, _ => exact key 41 1198 _ rfl rfl rfl rfl (bk_41 h h0 hi hN)
  | 42, _ => exact key 42 1243 _ rfl rfl rfl rfl (bk_42 h h0 hi hN)
  | 43, _ => exact key 43 1288 _ rfl rfl rfl rfl (bk_43 h h0 hi hN)
  | 44, _ => exact key 44 1295 _ rfl rfl rfl rfl (bk_44 h h0 hi hN)
  | 45, _ => exact key 45 1302 _ rfl rfl rfl rfl (bk_45 h h0 hi hN)
  | 46, _ => exact key 46 1309 _ rfl rfl rfl rfl (bk_46 h h0 hi hN)
  | 47, _ => exact key 47 1344 _ rfl rfl rfl rfl (bk_47 h h0 hi hN)
  | 48, _ => exact key 48 1351 _ rfl rfl rfl rfl (bk_48 h h0 hi hN)
  | 49, _ => exact key 49 1358 _ rfl rfl rfl rfl (bk_49 h h0 hi hN)
  | 50, _ => exact key 50 1365 _ rfl rfl rfl rfl (bk_50 h h0 hi hN)
  | 51, _ => exact key 51 1410 _ rfl rfl rfl rfl (bk_51 h h0 hi hN)
  | 52, _ => exact key 52 1463 _ rfl rfl rfl rfl (bk_52 h h0 hi hN)
  | 53, _ => exact key 53 1516 _ rfl rfl rfl rfl (bk_53 h h0 hi hN)
  | 54, _ => exact key 54 1569 _ rfl rfl rfl rfl (bk_54 h h0 hi hN)
  | 55, _ => exact key 55 1614 _ rfl rfl rfl rfl (bk_55 h h0 hi hN)
  | 56, _ => exact key 56 1631 _ rfl rfl rfl rfl (bk_56 h h0 hi hN)
  | 57, _ => exact key 57 1638 _ rfl rfl rfl rfl (bk_57 h h0 hi hN)
  | 58, _ => exact key 58 1643 _ rfl rfl rfl rfl (bk_58 h h0 hi hN)
  | 59, _ => exact key 59 1650 _ rfl rfl rfl rfl (bk_59 h h0 hi hN)
  | 60, _ => exact key2 60 _ rfl rfl
  | 61, _ => exact key2 61 _ rfl rfl
  | 62, _ => exact key2 62 _ rfl rfl
  | 63, _ => exact key2 63 _ rfl rfl
  | t + 64, ht => omega
theorem lp_13 {n : Nat} {M : mM} {x : Int32} {j : Nat} (h : Rl n M) (h0 : Z12 M) (hc : decide (M 233 0 - (Int8.ofInt 6).toInt32 < x) = false) (hx : mIn x (M 233 0).toNatClampNeg = true) (hi : ∀ c : Nat, c ≤ 5 → mIn (x + Int32.ofInt c) (M 233 0).toNatClampNeg = true) (hN : ∀ n' M', Rl n' M' → Z12 M' → kpS M M' → Gd 1667 x M' j) : Gd 13 x M (j + 1) := by
  obtain ⟨t, ht, e⟩ := and63 (M 232 (ix x))
  obtain ⟨M', k, hk, hE⟩ := lp_24 h h0 hi hN t ht
  rw [← e] at hE
  refine ⟨M', k, hk, ?_⟩
  refine ev_1 kc_372 y13 rfl (i' := 14) (L' := Lw x none none) (st' := [.int x]) (M1 := M) rfl ?_
  refine ev_1 kc_372 y14 rfl (i' := 15) (L' := Lw x none none) (st' := [.ref 232, .int x]) (M1 := M) rfl ?_
  refine ev_1 kc_372 y15 rfl (i' := 16) (L' := Lw x none none) (st' := [.int (M 233 0), .int x]) (M1 := M) rfl ?_
  refine ev_1 kc_372 y16 rfl (i' := 17) (L' := Lw x none none) (st' := [.int (Int8.ofInt 6).toInt32, .int (M 233 0), .int x]) (M1 := M) rfl ?_
  refine ev_1 kc_372 y17 rfl (i' := 18) (L' := Lw x none none) (st' := [.int (M 233 0 - (Int8.ofInt 6).toInt32), .int x]) (M1 := M) rfl ?_
  refine ev_nb kc_372 y18 rfl (c := decide (M 233 0 - (Int8.ofInt 6).toInt32 < x)) (t := 1669) (e := 19) (L' := Lw x none none) (st' := []) rfl hc ?_
  refine ev_1 kc_372 y19 rfl (i' := 20) (L' := Lw x none none) (st' := [.ref 232]) (M1 := M) rfl ?_
  refine ev_1 kc_372 y20 rfl (i' := 21) (L' := Lw x none none) (st' := [.int x, .ref 232]) (M1 := M) rfl ?_
  refine ev_1 kc_372 y21 rfl (i' := 22) (L' := Lw x none none) (st' := [.int (M 232 (ix x))]) (M1 := M) ?_ ?_
  · show mLds 21 (Lw x none none) [.int x, .ref 232] M = _
    unfold mLds
    dsimp only
    rw [if_pos ⟨rfl, hx⟩]
  refine ev_1 kc_372 y22 rfl (i' := 23) (L' := Lw x none none) (st' := [.int (Int8.ofInt 63).toInt32, .int (M 232 (ix x))]) (M1 := M) rfl ?_
  exact ev_1 kc_372 y23 rfl (i' := 24) (L' := Lw x none none) (st' := [.int (M 232 (ix x) &&& (63 : Int32))]) (M1 := M) rfl hE
theorem lp_13e {M : mM} {x : Int32} {j : Nat} (hc : decide (M 233 0 - (Int8.ofInt 6).toInt32 < x) = true) : Gd 13 x M j := by
  obtain ⟨M', k, hk, hE⟩ := lp_end (x := x) (M := M) (j := j)
  refine ⟨M', k, hk, ?_⟩
  refine ev_1 kc_372 y13 rfl (i' := 14) (L' := Lw x none none) (st' := [.int x]) (M1 := M) rfl ?_
  refine ev_1 kc_372 y14 rfl (i' := 15) (L' := Lw x none none) (st' := [.ref 232, .int x]) (M1 := M) rfl ?_
  refine ev_1 kc_372 y15 rfl (i' := 16) (L' := Lw x none none) (st' := [.int (M 233 0), .int x]) (M1 := M) rfl ?_
  refine ev_1 kc_372 y16 rfl (i' := 17) (L' := Lw x none none) (st' := [.int (Int8.ofInt 6).toInt32, .int (M 233 0), .int x]) (M1 := M) rfl ?_
  refine ev_1 kc_372 y17 rfl (i' := 18) (L' := Lw x none none) (st' := [.int (M 233 0 - (Int8.ofInt 6).toInt32), .int x]) (M1 := M) rfl ?_
  exact ev_b kc_372 y18 rfl (c := decide (M 233 0 - (Int8.ofInt 6).toInt32 < x)) (t := 1669) (e := 19) (L' := Lw x none none) (st' := []) rfl hc hE
theorem i6_lt {len k : Nat} (hl : len < 2 ^ 30) (hk : k < 2 ^ 31 - 10) : decide (nI len - (Int8.ofInt 6).toInt32 < nI k) = decide (len < k + 6) := by
  rw [show (Int8.ofInt 6).toInt32 = (6 : Int32) from rfl]
  by_cases h6 : 6 ≤ len
  · rw [show nI len - (6 : Int32) = nI (len - 6) from pk_sub (b := 6) h6, i_lt (by omega) (by omega)]
    by_cases e : len < k + 6
    · rw [decide_eq_true e, decide_eq_true (show len - 6 < k by omega)]
    · rw [decide_eq_false e, decide_eq_false (show ¬ len - 6 < k by omega)]
  · rw [decide_eq_true (show len < k + 6 by omega)]
    have h0 : nI len - (6 : Int32) < 0 := (by decide : ∀ len, len < 6 → nI len - (6 : Int32) < 0) len (by omega)
    exact decide_eq_true (Int32.lt_of_lt_of_le h0 (nI_pos' (show k < 2 ^ 31 by omega)))
theorem i5_ofInt {k c : Nat} (hc : c ≤ 6) : nI k + Int32.ofInt c = nI (k + c) := by
  rw [show Int32.ofInt (c : Int) = nI c from (by decide : ∀ c : Nat, c ≤ 6 → Int32.ofInt (c : Int) = nI c) c hc, nI_add]
/-- from the loop's head, in any world that is right -/
theorem lp_all {len : Nat} (hl : len < 2 ^ 30) : ∀ (c m n : Nat) (M : mM), Rl n M → Z12 M → M 233 0 = nI len → len < 6 * m + 6 * (c + 1) → 6 * m ≤ len + 5 → Gd 13 (nI (6 * m)) M c := by
  intro c
  induction c with
  | zero =>
    intro m n M h h0 h3 hlt hm
    refine lp_13e ?_
    rw [h3, i6_lt hl (by omega)]
    exact decide_eq_true (by omega)
  | succ c ih =>
    intro m n M h h0 h3 hlt hm
    by_cases he : len < 6 * m + 6
    · refine lp_13e ?_
      rw [h3, i6_lt hl (by omega)]
      exact decide_eq_true he
    · have hcl : (M 233 0).toNatClampNeg = len := by rw [h3]; exact nI_clamp (by omega)
      refine lp_13 h h0 ?_ ?_ (fun q hq => ?_) fun n' M' h' h0' kp => lp_next ?_
      · rw [h3, i6_lt hl (by omega)]
        exact decide_eq_false he
      · rw [hcl]
        exact i_in (by omega) (by omega)
      · rw [hcl, i5_ofInt (by omega)]
        exact i_in (by omega) (by omega)
      · rw [show nI (6 * m) + Int32.ofInt 6 = nI (6 * (m + 1)) from i5_ofInt (c := 6) (by decide)]
        exact ih (m + 1) n' M' h' h0' (by rw [kp.2]; exact h3) (by omega) (by omega)
