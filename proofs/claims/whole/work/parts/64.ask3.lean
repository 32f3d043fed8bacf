/-! counts, odds, the script's end -/
theorem swN_of (x : Int32) : (∃ j, j < 11 ∧ x = nI j) ∨ (swN x 0 11 = 11 ∧ swN x 2 9 = 9 ∧ inB 0 5 x = false) := by
  by_cases h : 0 ≤ x.toInt ∧ x.toInt < 11
  · refine Or.inl ⟨x.toInt.toNat, by omega, ?_⟩
    apply Int32.toInt_inj.mp
    rw [i_toInt (by omega)]
    omega
  · refine Or.inr ⟨if_pos (by omega), if_pos (by omega), ?_⟩
    unfold inB
    by_cases h0 : x < 0
    · rw [decide_eq_true h0]; rfl
    · rw [Int32.lt_iff_toInt_lt, show (0 : Int32).toInt = 0 from rfl] at h0
      rw [decide_eq_true (show (5 : Int32) < x by rw [Int32.lt_iff_toInt_lt, show (5 : Int32).toInt = 5 from rfl]; omega), Bool.not_true, Bool.and_false]
section
variable {n : Nat} {M : mM}
def strS (n : Nat) (W : Nat → Int32) : Int32 := sm (fun q => bif decide (q < n) then pv W q 2 else 0) 8
theorem strS_n {W : Nat → Int32} (h8 : n ≤ 8) : strS n W = sm (fun q => pv W q 2) n := by
  unfold strS
  rw [sm_n (n := n) (fun k h1 _ => by rw [decide_eq_false (show ¬ k < n by omega)]; rfl) h8]
  exact sm_congr fun j hj => by rw [decide_eq_true hj]; rfl
theorem C_str (h : Rl n M) : f_X9_strengthOfAll 35 M = some (strS n (M 216)) := by
  unfold f_X9_strengthOfAll f_X9_strengthOfAll_l4 strS
  rw [gd_t T35]
  refine wh_8e (fun k => (sm (fun q => bif decide (q < n) then pv (M 216) q 2 else 0) k, nI k)) _ rfl (fun k hk => ?_) ?_
  · show f_X9_strengthOfAll_4 35 _ (nI k) M = _
    unfold f_X9_strengthOfAll_4
    rw [bif_f (i_8 hk), gd_t (i_in hk i_28), i_ix (by omega), i_1, sm_s]
    by_cases hkn : k < n
    · rw [show M (35 + 3) k = pv (M 216) k 2 from (h.tr.pp hkn).2.2.1, decide_eq_true hkn, cond_true]
    · rw [show M (35 + 3) k = 0 from (h.tr.p0 (by omega) hk).1, decide_eq_false hkn, cond_false]
  · show f_X9_strengthOfAll_4 35 _ (nI 8) M = _
    unfold f_X9_strengthOfAll_4
    rw [bif_t i_88]
theorem M_cnt {N : mM} {p : Int32} {r : Int32 × mM} (hn : N 216 0 = nI n) (h8 : n ≤ 8) (he : f_X12_count_7 p (strS n (N 216)) (nI n) (mst N 215 0 0) = some (.inl r)) : f_X12_count p N = some r := by
  unfold f_X12_count f_X12_count_l7
  rw [wr_e]
  have e' : mst N 215 0 0 216 = N 216 := mst_no (by decide)
  rw [strS_n h8] at he
  refine wh_ne (fun k => (sm (fun q => pv (N 216) q 2) k, nI k)) n _ (by omega) rfl (fun k hk => ?_) he
  show f_X12_count_7 p _ (nI k) (mst N 215 0 0) = _
  unfold f_X12_count_7
  rw [m_ppl (n := n) (by rw [e']; exact hn), b1_s, bif_f (i_len hk h8), show (2 : Int32) = nI 2 from rfl, m_of (by omega) (by decide), b1_s, i_1, e', sm_s]
/-- its branches, by number -/
theorem Cc_0 : f_X11_count (0 : Int32) M = some (M 35 0) := by
  unfold f_X11_count
  rw [show swN (0 : Int32) 0 11 = 0 from rfl, show decide ((0 : Nat) = 0) = true from rfl, cond_true]
theorem Cc_1 : f_X11_count (1 : Int32) M = some (M 35 7) := by
  unfold f_X11_count
  rw [show swN (1 : Int32) 0 11 = 1 from rfl, show decide ((1 : Nat) = 0) = false from rfl, cond_false, show decide ((1 : Nat) = 1) = true from rfl, cond_true]
theorem Cc_2 : f_X11_count 2 M = bif decide ((M 17 0) = 0) then (some (-1 : Int32)) else (some (M 17 1)) := by
  unfold f_X11_count
  rw [show swN (2 : Int32) 0 11 = 2 from rfl, show decide ((2 : Nat) = 0) = false from rfl, cond_false, show decide ((2 : Nat) = 1) = false from rfl, cond_false, show decide ((2 : Nat) = 2) = true from rfl, cond_true]
theorem Cc_3 : f_X11_count (3 : Int32) M = some (M 35 3) := by
  unfold f_X11_count
  rw [show swN (3 : Int32) 0 11 = 3 from rfl, show decide ((3 : Nat) = 0) = false from rfl, cond_false, show decide ((3 : Nat) = 1) = false from rfl, cond_false, show decide ((3 : Nat) = 2) = false from rfl, cond_false, show decide ((3 : Nat) = 3) = true from rfl, cond_true]
theorem Cc_4 : f_X11_count (4 : Int32) M = some (M 35 4) := by
  unfold f_X11_count
  rw [show swN (4 : Int32) 0 11 = 4 from rfl, show decide ((4 : Nat) = 0) = false from rfl, cond_false, show decide ((4 : Nat) = 1) = false from rfl, cond_false, show decide ((4 : Nat) = 2) = false from rfl, cond_false, show decide ((4 : Nat) = 3) = false from rfl, cond_false, show decide ((4 : Nat) = 4) = true from rfl, cond_true]
theorem Cc_5 : f_X11_count (5 : Int32) M = some (M 35 5) := by
  unfold f_X11_count
  rw [show swN (5 : Int32) 0 11 = 5 from rfl, show decide ((5 : Nat) = 0) = false from rfl, cond_false, show decide ((5 : Nat) = 1) = false from rfl, cond_false, show decide ((5 : Nat) = 2) = false from rfl, cond_false, show decide ((5 : Nat) = 3) = false from rfl, cond_false, show decide ((5 : Nat) = 4) = false from rfl, cond_false, show decide ((5 : Nat) = 5) = true from rfl, cond_true]
theorem Cc_6 : f_X11_count (6 : Int32) M = some (M 35 1) := by
  unfold f_X11_count
  rw [show swN (6 : Int32) 0 11 = 6 from rfl, show decide ((6 : Nat) = 0) = false from rfl, cond_false, show decide ((6 : Nat) = 1) = false from rfl, cond_false, show decide ((6 : Nat) = 2) = false from rfl, cond_false, show decide ((6 : Nat) = 3) = false from rfl, cond_false, show decide ((6 : Nat) = 4) = false from rfl, cond_false, show decide ((6 : Nat) = 5) = false from rfl, cond_false, show decide ((6 : Nat) = 6) = true from rfl, cond_true]
theorem Cc_7 : f_X11_count 7 M = b1 (f_X9_borneByAll 35 M) (fun v10 => some v10) := by
  unfold f_X11_count
  rw [show swN (7 : Int32) 0 11 = 7 from rfl, show decide ((7 : Nat) = 0) = false from rfl, cond_false, show decide ((7 : Nat) = 1) = false from rfl, cond_false, show decide ((7 : Nat) = 2) = false from rfl, cond_false, show decide ((7 : Nat) = 3) = false from rfl, cond_false, show decide ((7 : Nat) = 4) = false from rfl, cond_false, show decide ((7 : Nat) = 5) = false from rfl, cond_false, show decide ((7 : Nat) = 6) = false from rfl, cond_false, show decide ((7 : Nat) = 7) = true from rfl, cond_true]
theorem Cc_8 : f_X11_count 8 M = b1 (f_X9_strengthOfAll 35 M) (fun v12 => some v12) := by
  unfold f_X11_count
  rw [show swN (8 : Int32) 0 11 = 8 from rfl, show decide ((8 : Nat) = 0) = false from rfl, cond_false, show decide ((8 : Nat) = 1) = false from rfl, cond_false, show decide ((8 : Nat) = 2) = false from rfl, cond_false, show decide ((8 : Nat) = 3) = false from rfl, cond_false, show decide ((8 : Nat) = 4) = false from rfl, cond_false, show decide ((8 : Nat) = 5) = false from rfl, cond_false, show decide ((8 : Nat) = 6) = false from rfl, cond_false, show decide ((8 : Nat) = 7) = false from rfl, cond_false, show decide ((8 : Nat) = 8) = true from rfl, cond_true]
theorem Cc_9 : f_X11_count (9 : Int32) M = some (M 44 2) := by
  unfold f_X11_count
  rw [show swN (9 : Int32) 0 11 = 9 from rfl, show decide ((9 : Nat) = 0) = false from rfl, cond_false, show decide ((9 : Nat) = 1) = false from rfl, cond_false, show decide ((9 : Nat) = 2) = false from rfl, cond_false, show decide ((9 : Nat) = 3) = false from rfl, cond_false, show decide ((9 : Nat) = 4) = false from rfl, cond_false, show decide ((9 : Nat) = 5) = false from rfl, cond_false, show decide ((9 : Nat) = 6) = false from rfl, cond_false, show decide ((9 : Nat) = 7) = false from rfl, cond_false, show decide ((9 : Nat) = 8) = false from rfl, cond_false, show decide ((9 : Nat) = 9) = true from rfl, cond_true]
theorem Cc_10 : f_X11_count (10 : Int32) M = some (M 3 2) := by
  unfold f_X11_count
  rw [show swN (10 : Int32) 0 11 = 10 from rfl, show decide ((10 : Nat) = 0) = false from rfl, cond_false, show decide ((10 : Nat) = 1) = false from rfl, cond_false, show decide ((10 : Nat) = 2) = false from rfl, cond_false, show decide ((10 : Nat) = 3) = false from rfl, cond_false, show decide ((10 : Nat) = 4) = false from rfl, cond_false, show decide ((10 : Nat) = 5) = false from rfl, cond_false, show decide ((10 : Nat) = 6) = false from rfl, cond_false, show decide ((10 : Nat) = 7) = false from rfl, cond_false, show decide ((10 : Nat) = 8) = false from rfl, cond_false, show decide ((10 : Nat) = 9) = false from rfl, cond_false, show decide ((10 : Nat) = 10) = true from rfl, cond_true]
theorem Cc_11 {p : Int32} (hp : swN p 0 11 = 11) : f_X11_count p M = some (-1 : Int32) := by
  unfold f_X11_count
  rw [hp, show decide ((11 : Nat) = 0) = false from rfl, cond_false, show decide ((11 : Nat) = 1) = false from rfl, cond_false, show decide ((11 : Nat) = 2) = false from rfl, cond_false, show decide ((11 : Nat) = 3) = false from rfl, cond_false, show decide ((11 : Nat) = 4) = false from rfl, cond_false, show decide ((11 : Nat) = 5) = false from rfl, cond_false, show decide ((11 : Nat) = 6) = false from rfl, cond_false, show decide ((11 : Nat) = 7) = false from rfl, cond_false, show decide ((11 : Nat) = 8) = false from rfl, cond_false, show decide ((11 : Nat) = 9) = false from rfl, cond_false, show decide ((11 : Nat) = 10) = false from rfl, cond_false]
theorem Mc_0 {N : mM} {s : Int32} (hn : N 216 0 = nI n) : f_X12_count_7 (0 : Int32) s (nI n) N = some (.inl (N 216 0, N)) := by
  unfold f_X12_count_7
  rw [m_ppl hn, b1_s, bif_t (i_lee n), show swN (0 : Int32) 2 9 = 9 from rfl, show decide ((9 : Nat) = 0) = false from rfl, cond_false, show decide ((9 : Nat) = 1) = false from rfl, cond_false, show decide ((9 : Nat) = 2) = false from rfl, cond_false, show decide ((9 : Nat) = 3) = false from rfl, cond_false, show decide ((9 : Nat) = 4) = false from rfl, cond_false, show decide ((9 : Nat) = 5) = false from rfl, cond_false, show decide ((9 : Nat) = 6) = false from rfl, cond_false, show decide ((9 : Nat) = 7) = false from rfl, cond_false, show decide ((9 : Nat) = 8) = false from rfl, cond_false, in_B, show inB 0 5 (0 : Int32) = true from rfl, cond_true, gd_t (show mIn (0 : Int32) 2122 = true from rfl)]
  rfl
theorem Mc_1 {N : mM} {s : Int32} (hn : N 216 0 = nI n) : f_X12_count_7 (1 : Int32) s (nI n) N = some (.inl (N 216 1, N)) := by
  unfold f_X12_count_7
  rw [m_ppl hn, b1_s, bif_t (i_lee n), show swN (1 : Int32) 2 9 = 9 from rfl, show decide ((9 : Nat) = 0) = false from rfl, cond_false, show decide ((9 : Nat) = 1) = false from rfl, cond_false, show decide ((9 : Nat) = 2) = false from rfl, cond_false, show decide ((9 : Nat) = 3) = false from rfl, cond_false, show decide ((9 : Nat) = 4) = false from rfl, cond_false, show decide ((9 : Nat) = 5) = false from rfl, cond_false, show decide ((9 : Nat) = 6) = false from rfl, cond_false, show decide ((9 : Nat) = 7) = false from rfl, cond_false, show decide ((9 : Nat) = 8) = false from rfl, cond_false, in_B, show inB 0 5 (1 : Int32) = true from rfl, cond_true, gd_t (show mIn (1 : Int32) 2122 = true from rfl)]
  rfl
theorem Mc_2 {N : mM} {s : Int32} (hn : N 216 0 = nI n) : f_X12_count_7 (2 : Int32) s (nI n) N = bif decide (¬ (N 216 (ix (2 : Int32))) = (1 : Int32)) then (some (.inl ((-1 : Int32), N))) else (some (.inl ((N 216 (ix (424 : Int32))), N))) := by
  unfold f_X12_count_7
  rw [m_ppl hn, b1_s, bif_t (i_lee n), show swN (2 : Int32) 2 9 = 0 from rfl, show decide ((0 : Nat) = 0) = true from rfl, cond_true]
theorem Mc_3 {N : mM} {s : Int32} (hn : N 216 0 = nI n) : f_X12_count_7 (3 : Int32) s (nI n) N = some (.inl (N 216 3, N)) := by
  unfold f_X12_count_7
  rw [m_ppl hn, b1_s, bif_t (i_lee n), show swN (3 : Int32) 2 9 = 1 from rfl, show decide ((1 : Nat) = 0) = false from rfl, cond_false, show decide ((1 : Nat) = 1) = true from rfl, cond_true, in_B, show inB 0 5 (3 : Int32) = true from rfl, cond_true, gd_t (show mIn (3 : Int32) 2122 = true from rfl)]
  rfl
theorem Mc_4 {N : mM} {s : Int32} (hn : N 216 0 = nI n) : f_X12_count_7 (4 : Int32) s (nI n) N = some (.inl (N 216 4, N)) := by
  unfold f_X12_count_7
  rw [m_ppl hn, b1_s, bif_t (i_lee n), show swN (4 : Int32) 2 9 = 2 from rfl, show decide ((2 : Nat) = 0) = false from rfl, cond_false, show decide ((2 : Nat) = 1) = false from rfl, cond_false, show decide ((2 : Nat) = 2) = true from rfl, cond_true, in_B, show inB 0 5 (4 : Int32) = true from rfl, cond_true, gd_t (show mIn (4 : Int32) 2122 = true from rfl)]
  rfl
theorem Mc_5 {N : mM} {s : Int32} (hn : N 216 0 = nI n) : f_X12_count_7 (5 : Int32) s (nI n) N = some (.inl (N 216 5, N)) := by
  unfold f_X12_count_7
  rw [m_ppl hn, b1_s, bif_t (i_lee n), show swN (5 : Int32) 2 9 = 3 from rfl, show decide ((3 : Nat) = 0) = false from rfl, cond_false, show decide ((3 : Nat) = 1) = false from rfl, cond_false, show decide ((3 : Nat) = 2) = false from rfl, cond_false, show decide ((3 : Nat) = 3) = true from rfl, cond_true, in_B, show inB 0 5 (5 : Int32) = true from rfl, cond_true, gd_t (show mIn (5 : Int32) 2122 = true from rfl)]
  rfl
theorem Mc_6 {N : mM} {s : Int32} (hn : N 216 0 = nI n) : f_X12_count_7 (6 : Int32) s (nI n) N = b1 (f_X12_upOnes N) (fun v18 => some (.inl (v18, N))) := by
  unfold f_X12_count_7
  rw [m_ppl hn, b1_s, bif_t (i_lee n), show swN (6 : Int32) 2 9 = 4 from rfl, show decide ((4 : Nat) = 0) = false from rfl, cond_false, show decide ((4 : Nat) = 1) = false from rfl, cond_false, show decide ((4 : Nat) = 2) = false from rfl, cond_false, show decide ((4 : Nat) = 3) = false from rfl, cond_false, show decide ((4 : Nat) = 4) = true from rfl, cond_true]
theorem Mc_7 {N : mM} {s : Int32} (hn : N 216 0 = nI n) : f_X12_count_7 (7 : Int32) s (nI n) N = b2 (f_X12_borneByAll N) (fun v20 M20 => some (.inl (v20, M20))) := by
  unfold f_X12_count_7
  rw [m_ppl hn, b1_s, bif_t (i_lee n), show swN (7 : Int32) 2 9 = 5 from rfl, show decide ((5 : Nat) = 0) = false from rfl, cond_false, show decide ((5 : Nat) = 1) = false from rfl, cond_false, show decide ((5 : Nat) = 2) = false from rfl, cond_false, show decide ((5 : Nat) = 3) = false from rfl, cond_false, show decide ((5 : Nat) = 4) = false from rfl, cond_false, show decide ((5 : Nat) = 5) = true from rfl, cond_true]
theorem Mc_8 {N : mM} {s : Int32} (hn : N 216 0 = nI n) : f_X12_count_7 (8 : Int32) s (nI n) N = some (.inl (s, N)) := by
  unfold f_X12_count_7
  rw [m_ppl hn, b1_s, bif_t (i_lee n), show swN (8 : Int32) 2 9 = 6 from rfl, show decide ((6 : Nat) = 0) = false from rfl, cond_false, show decide ((6 : Nat) = 1) = false from rfl, cond_false, show decide ((6 : Nat) = 2) = false from rfl, cond_false, show decide ((6 : Nat) = 3) = false from rfl, cond_false, show decide ((6 : Nat) = 4) = false from rfl, cond_false, show decide ((6 : Nat) = 5) = false from rfl, cond_false, show decide ((6 : Nat) = 6) = true from rfl, cond_true]
theorem Mc_9 {N : mM} {s : Int32} (hn : N 216 0 = nI n) : f_X12_count_7 (9 : Int32) s (nI n) N = some (.inl (N 216 (ix (6 : Int32)), N)) := by
  unfold f_X12_count_7
  rw [m_ppl hn, b1_s, bif_t (i_lee n), show swN (9 : Int32) 2 9 = 7 from rfl, show decide ((7 : Nat) = 0) = false from rfl, cond_false, show decide ((7 : Nat) = 1) = false from rfl, cond_false, show decide ((7 : Nat) = 2) = false from rfl, cond_false, show decide ((7 : Nat) = 3) = false from rfl, cond_false, show decide ((7 : Nat) = 4) = false from rfl, cond_false, show decide ((7 : Nat) = 5) = false from rfl, cond_false, show decide ((7 : Nat) = 6) = false from rfl, cond_false, show decide ((7 : Nat) = 7) = true from rfl, cond_true]
theorem Mc_10 {N : mM} {s : Int32} (hn : N 216 0 = nI n) : f_X12_count_7 (10 : Int32) s (nI n) N = some (.inl (N 215 7, N)) := by
  unfold f_X12_count_7
  rw [m_ppl hn, b1_s, bif_t (i_lee n), show swN (10 : Int32) 2 9 = 8 from rfl, show decide ((8 : Nat) = 0) = false from rfl, cond_false, show decide ((8 : Nat) = 1) = false from rfl, cond_false, show decide ((8 : Nat) = 2) = false from rfl, cond_false, show decide ((8 : Nat) = 3) = false from rfl, cond_false, show decide ((8 : Nat) = 4) = false from rfl, cond_false, show decide ((8 : Nat) = 5) = false from rfl, cond_false, show decide ((8 : Nat) = 6) = false from rfl, cond_false, show decide ((8 : Nat) = 7) = false from rfl, cond_false, show decide ((8 : Nat) = 8) = true from rfl, cond_true]
theorem Mc_11 {N : mM} {s : Int32} (hn : N 216 0 = nI n) {p : Int32} (hp : swN p 2 9 = 9) (hi : inB 0 5 p = false) : f_X12_count_7 p s (nI n) N = some (.inl ((-1 : Int32), N)) := by
  unfold f_X12_count_7
  rw [m_ppl hn, b1_s, bif_t (i_lee n), hp, show decide ((9 : Nat) = 0) = false from rfl, cond_false, show decide ((9 : Nat) = 1) = false from rfl, cond_false, show decide ((9 : Nat) = 2) = false from rfl, cond_false, show decide ((9 : Nat) = 3) = false from rfl, cond_false, show decide ((9 : Nat) = 4) = false from rfl, cond_false, show decide ((9 : Nat) = 5) = false from rfl, cond_false, show decide ((9 : Nat) = 6) = false from rfl, cond_false, show decide ((9 : Nat) = 7) = false from rfl, cond_false, show decide ((9 : Nat) = 8) = false from rfl, cond_false, in_B, hi, cond_false]
theorem LW.cnt {W : Nat → Int32} (h : LW W M 17) : (bif decide ((M 17 0) = 0) then (some (-1 : Int32)) else (some (M 17 1))) = some (bif decide (¬ W 2 = (1 : Int32)) then (-1 : Int32) else W 424) := by
  rcases h with ⟨a, b⟩ | ⟨a, b, m, -, c1, c2, -⟩
  · rw [a, b]; rfl
  · rw [a, b, c1, c2]; rfl
theorem Op_count (h : Rl n M) {p : Int32} : OpR M (f_X11_count p) (f_X12_count p) := by
  have h8 := h.h8
  have hn := h.hn
  have e' : mst M 215 0 0 216 = M 216 := mst_no (by decide)
  have hn' : mst M 215 0 0 216 0 = nI n := by rw [e']; exact hn
  obtain ⟨t0, t1, t2, t3, t4, t5, t6, t7, -⟩ := id h.tr
  rcases swN_of p with ⟨j, hj, rfl⟩ | ⟨s1, s2, s3⟩
  · match j, hj with
    | 0, _ => exact OpR.q h (Cc_0.trans (congrArg some (t0.trans hn.symm))) (M_cnt hn h8 (by rw [show nI 0 = (0 : Int32) from rfl, Mc_0 hn', e'])) rq_00
    | 1, _ => exact OpR.q h (Cc_1.trans (congrArg some t7)) (M_cnt hn h8 (by rw [show nI 1 = (1 : Int32) from rfl, Mc_1 hn', e'])) rq_00
    | 2, _ =>
      refine OpR.q h (Cc_2.trans h.lw.cnt) (M2 := mst M 215 0 0) (M_cnt hn h8 ?_) rq_00
      rw [show nI 2 = (2 : Int32) from rfl, Mc_2 hn', e', show ix (2 : Int32) = 2 from rfl, show ix (424 : Int32) = 424 from rfl]
      cases decide (¬ M 216 2 = (1 : Int32))
      · rw [cond_false, cond_false]
      · rw [cond_true, cond_true]
    | 3, _ => exact OpR.q h (Cc_3.trans (congrArg some t3)) (M_cnt hn h8 (by rw [show nI 3 = (3 : Int32) from rfl, Mc_3 hn', e'])) rq_00
    | 4, _ => exact OpR.q h (Cc_4.trans (congrArg some t4)) (M_cnt hn h8 (by rw [show nI 4 = (4 : Int32) from rfl, Mc_4 hn', e'])) rq_00
    | 5, _ => exact OpR.q h (Cc_5.trans (congrArg some t5)) (M_cnt hn h8 (by rw [show nI 5 = (5 : Int32) from rfl, Mc_5 hn', e'])) rq_00
    | 6, _ => exact OpR.q h (Cc_6.trans (congrArg some t1)) (M_cnt hn h8 (by rw [show nI 6 = (6 : Int32) from rfl, Mc_6 hn', m_ups hn' h8, b1_s, e'])) rq_00
    | 7, _ =>
      obtain ⟨M2, g1, g2⟩ := M_sumB (W := M 216) (M := mst M 215 0 0) hn h8 e'
      exact OpR.q h (Cc_7.trans (by rw [T_sumB h.ts T35, b1_s])) (M_cnt hn h8 (by rw [show nI 7 = (7 : Int32) from rfl, Mc_7 hn', b2_a g1])) (rq_00.tr (RQ.of (fun z _ _ z3 _ _ => g2 z z3) fun k _ => by rw [g2 215 (by decide)]))
    | 8, _ => exact OpR.q h (Cc_8.trans (by rw [C_str h, b1_s])) (M_cnt hn h8 (by rw [show nI 8 = (8 : Int32) from rfl, Mc_8 hn'])) rq_00
    | 9, _ =>
      obtain ⟨c, -, h6, -, -, g2⟩ := C_at L44 h.tr.lr
      exact OpR.q h (Cc_9.trans (congrArg some (g2.trans h6.symm))) (M_cnt hn h8 (by rw [show nI 9 = (9 : Int32) from rfl, Mc_9 hn', e', show ix (6 : Int32) = 6 from rfl])) rq_00
    | 10, _ =>
      obtain ⟨x, c, hCp, hMp⟩ := h.ps.out
      exact OpR.q h (Cc_10.trans (congrArg some (hCp.2.2.2.1.trans hMp.1.symm))) (M_cnt hn h8 (by rw [show nI 10 = (10 : Int32) from rfl, Mc_10 hn', mst_nk (show 7 ≠ 0 by decide)])) rq_00
  · exact OpR.q h (Cc_11 s1) (M_cnt hn h8 (by rw [Mc_11 hn' s2 s3])) rq_00
/-- odds -/
def oddV (c : Int32) : Nat → Int32
  | 0 => 10000
  | j + 1 => (oddV c j * c) / 100
theorem oddV_s (c : Int32) (j : Nat) : oddV c (j + 1) = (oddV c j * c) / 100 := rfl
def tOd (E : Nat) : Int32 := bif Nat.beq E 2 then 1 else bif Nat.beq E 0 then 2 else 0
theorem Op_odds (h : Rl n M) {p t : Int32} : OpT M (f_X11_odds p t) (f_X12_odds p t) tOd := by
  have h8 := h.h8
  cases hP : isP n p
  · refine OpT.q h (r := .inr 2) (M1 := M) ?_ CQ.rf (fun Mo e hr => ⟨0, mst (mst Mo 215 0 0) 215 0 1, ?_, rq_thr.1, rq_thr.2.1, rq_thr.2.2, by decide⟩)
    · unfold f_X11_odds
      rw [C_mustP h, hP]
      rfl
    · unfold f_X12_odds
      rw [wr_e, b1_a (m_nb h e), hP, m_tIf]
      rfl
  · obtain ⟨k, hk, rfl⟩ := isP_of h8 hP
    have hC : f_X11_odds (nI k) t M = f_X11_odds_11 (nI k) t (inB 0 4 t) M := by
      unfold f_X11_odds f_X11_odds_10 inB
      rw [C_mustP h, hP, cond_true, tb_l]
      cases decide (t < 0)
      · cases decide ((4 : Int32) < t)
        · rw [cond_false, cond_false]; rfl
        · rw [cond_false, cond_true]; rfl
      · rw [cond_true]; rfl
    have hM : ∀ Mo : mM, Mo 216 = M 216 → f_X12_odds (nI k) t Mo = f_X12_odds_19 (nI k) t (!inB 0 4 t) (mst Mo 215 0 0) := fun Mo e => by
      unfold f_X12_odds
      rw [wr_e, b1_a (m_nb h e), hP, m_tIf, b2_s, Bool.not_true, cond_false, cond_false, in_B]
      cases inB 0 4 t
      · rw [cond_false, Bool.not_false]
      · rw [cond_true, Bool.not_true]
    cases hI : inB 0 4 t
    · refine OpT.q h (r := .inr 0) (M1 := M) ?_ CQ.rf (fun Mo e hr => ⟨0, mst (mst Mo 215 0 0) 215 0 2, ?_, rq_thr.1, rq_thr.2.1, rq_thr.2.2, by decide⟩)
      · rw [hC, hI]
        unfold f_X11_odds_11 f_X11_mustBeOne
        rw [cond_false, tb_r]
      · rw [hM Mo e, hI]
        unfold f_X12_odds_19
        rw [m_tIf, b2_s, Bool.not_false, cond_true, cond_true]
    · obtain ⟨m, hm, rfl⟩ : ∃ j, j ≤ 4 ∧ t = nI j := by
        unfold inB at hI
        rw [Bool.and_eq_true, ← dn, ← dn] at hI
        exact nI_of2 (M := 4) (n := 4) rfl (of_decide_eq_true hI.1) (Int32.not_lt.mp (of_decide_eq_true hI.2))
      obtain ⟨M1, a1, a2⟩ := C_amount h.wf h.ts h.lw L17 T35 hk (Or.inr (by decide)) (kind := 2) (Or.inr (Or.inr rfl))
      refine OpT.q h (r := .inl (oddV ((100 : Int32) - (mMin (100 : Int32) (lawV n (M 216) 2 k))) m)) (M1 := M1) ?_ (CQ.of fun z hz => a2 z (sC_z hz).1) (fun Mo e hr => ?_)
      · rw [hC, hI]
        unfold f_X11_odds_11 f_X11_mustBeOne f_X11_odds_l28
        rw [cond_true, tb_l, b2_a a1]
        refine wh_ne (fun j => (oddV ((100 : Int32) - (mMin (100 : Int32) (lawV n (M 216) 2 k))) j, nI j)) m _ (by omega) rfl (fun j hj => ?_) ?_
        · show f_X11_odds_28 (nI m) _ _ (nI j) M1 = _
          unfold f_X11_odds_28
          rw [i_le (by omega) (by omega), decide_eq_false (by omega), cond_false, i_1, oddV_s]
        · show f_X11_odds_28 (nI m) _ _ (nI m) M1 = _
          unfold f_X11_odds_28
          rw [i_lee, cond_true]
      · obtain ⟨M2, b1, b2⟩ := M_byLaw (M := mst Mo 215 0 0) (W := M 216) h.wf (by rw [mst_no (by decide), e]) h.lw hk (kind := 2) (Or.inr (Or.inr rfl))
        refine ⟨_, M2, ?_, rq_00.tr (RQ.of (fun z _ _ z3 _ z5 => b2 z z3 (by omega)) fun q _ => by rw [b2 215 (by decide) (by decide)]), by rw [b2 231 (by decide) (by decide), mst_no (by decide)], rfl, by rw [b2 215 (by decide) (by decide), mst_oo]⟩
        rw [hM Mo e, hI]
        unfold f_X12_odds_19 f_X12_odds_l37
        rw [m_tIf, b2_s, Bool.not_true, cond_false, cond_false, b2_a b1]
        refine wh_ne (fun j => (oddV ((100 : Int32) - (mMin (100 : Int32) (lawV n (M 216) 2 k))) j, nI j)) m _ (by omega) rfl (fun j hj => ?_) ?_
        · show f_X12_odds_37 (nI m) _ _ (nI j) M2 = _
          unfold f_X12_odds_37
          rw [i_le (by omega) (by omega), decide_eq_false (by omega), cond_false, i_1, oddV_s]
        · show f_X12_odds_37 (nI m) _ _ (nI m) M2 = _
          unfold f_X12_odds_37
          rw [i_lee, cond_true]
/-- the script's end -/
theorem Op_end (h : Rl n M) {x : Int32} : OpA M (f_X11_end x) (f_X12_end x) := by
  obtain ⟨L, hL, t1, t2, t3, t4⟩ := id h.tp
  cases e1 : decide (x < 0)
  · cases e2 : decide (x ≤ nI L)
    · refine OpA.q h (v := false) (M1 := M) ?_ CQ.rf (fun h1 _ => ⟨mst M 215 0 0, ?_, rq_00⟩)
      · unfold f_X11_end
        rw [e1, cond_false, t1, e2, cond_false]
      · unfold f_X12_end
        rw [wr_e, e1, cond_false, mst_nk (show 13 ≠ 0 by decide), t2, e2, cond_false]
    · obtain ⟨m, hm, rfl⟩ : ∃ m, m ≤ L ∧ x = nI m := by
        have b1 := of_decide_eq_false e1
        have b2 := of_decide_eq_true e2
        rw [Int32.lt_iff_toInt_lt, show (0 : Int32).toInt = 0 from rfl] at b1
        rw [Int32.le_iff_toInt_le, i_toInt (by omega)] at b2
        refine ⟨x.toInt.toNat, by omega, ?_⟩
        apply Int32.toInt_inj.mp
        rw [i_toInt (by omega)]
        omega
      refine ⟨true, mst M 1 1 (nI m), mst (mst (mst M 1 1 (nI m)) 215 0 0) 215 13 (nI m), ?_, ?_, n, ?_⟩
      · unfold f_X11_end
        rw [e1, cond_false, t1, e2, cond_true, wr_e]
      · unfold f_X12_end
        rw [wr_e, e1, cond_false, mst_nk (show 13 ≠ 0 by decide), mst_no (show 215 ≠ 1 by decide), t2, e2, cond_true, wr_e]
      · generalize hN : mst (mst (mst M 1 1 (nI m)) 215 0 0) 215 13 (nI m) = N
        have eF : ∀ z, z ≠ 1 → z ≠ 215 → N z = M z := fun z z1 z2 => by rw [← hN, mst_no z2, mst_no z2, mst_no z1]
        have e5 : ∀ k, k ≠ 0 → k ≠ 13 → N 215 k = M 215 k := fun k k1 k2 => by rw [← hN, mst_nk k2, mst_nk k1, mst_no (by decide)]
        have e216 : N 216 = M 216 := eF 216 (by decide) (by decide)
        refine ⟨by rw [e216]; exact h.1, by rw [e216]; exact h.2.1, by rw [e216]; exact h.ts.in216 h.h8 fun z z1 z2 => eF z (by omega) (by omega), by rw [e216]; exact h.lw.rf fun j hj => eF _ (by omega) (by omega), ⟨m, by omega, by rw [← hN, mst_no (by decide), mst_no (by decide), mst_oo], by rw [← hN, mst_oo], ?_, fun i hi => by rw [eF 2 (by decide) (by decide), eF 223 (by decide) (by decide)]; exact t4 i (by omega)⟩, ?_, ?_⟩
        · rw [e5 18 (by decide) (by decide), ← t3, ← hN, mst_no (by decide), mst_no (by decide), mst_nk (by decide)]
        · exact h.im.mv (by rw [eF 0 (by decide) (by decide)]) (e5 _ (by decide) (by decide)) (eF 217 (by decide) (by decide)) (fun z z1 z2 => eF z (by omega) (by omega)) (fun z z1 z2 => eF z (by omega) (by omega))
        · obtain ⟨y, c, hCp, hMp⟩ := h.ps.out
          exact Ps.mk (Mc := N) (Mm := M) (hCp.mv fun z hz => eF z (by omega) (by omega)) hMp (fun z _ => rfl) (e5 _ (by decide) (by decide)) (eF 220 (by decide) (by decide)) (by rw [e216])
  · refine OpA.q h (v := false) (M1 := M) ?_ CQ.rf (fun h1 _ => ⟨mst M 215 0 0, ?_, rq_00⟩)
    · unfold f_X11_end
      rw [e1, cond_true]
    · unfold f_X12_end
      rw [wr_e, e1, cond_true]
end
