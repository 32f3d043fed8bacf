/-! the past: what is remembered, undone, kept -/
theorem rmd_n {a d : Nat} (ha : a < 2 ^ 31) (h0 : 0 < d) (hd : d < 2 ^ 31) : rmd (nI a) (nI d) = nI (a % d) := pk_rem ha h0 hd
theorem Tk {x : Nat} (h : x < 12) : mTwB (71 + 12 * x) = true := (by decide +kernel : ∀ x, x < 12 → mTwB (71 + 12 * x) = true) x h
def PsC (M : mM) (x c : Nat) (V : Nat → Nat → Int32) (l2 : Int32) : Prop := x < 12 ∧ c ≤ 12 ∧ M 3 1 = nI x ∧ M 3 2 = nI c ∧ ∀ j, j < c → ∃ n, WF n (V j) ∧ stB n (V j) (fun _ => 0) = true ∧ TS n (V j) M (71 + 12 * ((x + 11 - j) % 12)) ∧ V j 2 = l2
def PsM (M : mM) (c : Nat) (V : Nat → Nat → Int32) : Prop := M 215 7 = nI c ∧ ∀ j, j < c → eqW (V j) (pW M c j)
def PsV (W : Nat → Int32) (V : Nat → Nat → Int32) (j : Nat) : Nat → Int32 := match j with
  | 0 => W
  | j + 1 => V j
theorem Ps.out {M : mM} (h : Ps M) : ∃ x c, PsC M x c (pW M c) (M 216 2) ∧ PsM M c (pW M c) := by
  obtain ⟨x, c, h1, h2, h3, h4, h5, h6⟩ := h
  exact ⟨x, c, ⟨h1, h2, h3, h4, h6⟩, h5, fun j _ k _ => rfl⟩
theorem Ps.mk {M Mc Mm : mM} {x c : Nat} {V : Nat → Nat → Int32} {l2 : Int32} (h : PsC Mc x c V l2) (h' : PsM Mm c V) (ec : ∀ z, z < 215 → M z = Mc z) (em7 : M 215 7 = Mm 215 7) (em : M 220 = Mm 220) (el : M 216 2 = l2) : Ps M := by
  obtain ⟨h1, h2, h3, h4, h6⟩ := h
  obtain ⟨h5, h7⟩ := h'
  refine ⟨x, c, h1, h2, by rw [ec 3 (by decide)]; exact h3, by rw [ec 3 (by decide)]; exact h4, by rw [em7]; exact h5, fun j hj => ?_⟩
  obtain ⟨n, g1, g2, g3, g4⟩ := h6 j hj
  have hq := h7 j hj
  rw [pW_eq em c j]
  have hlt : (x + 11 - j) % 12 < 12 := Nat.mod_lt _ (by decide)
  refine ⟨n, g1.eq hq, by rw [← hq.st]; exact g2, (g3.eq hq g1.2.1).mv g1.2.1 (eqT.rf fun i hi _ => ec _ (by omega)), ?_⟩
  rw [← hq 2 (by decide), g4, el]
theorem PsC.mv {M M' : mM} {x c : Nat} {V : Nat → Nat → Int32} {l2 : Int32} (h : PsC M x c V l2) (e : ∀ z, z = 3 ∨ (71 ≤ z ∧ z < 215) → M' z = M z) : PsC M' x c V l2 := by
  obtain ⟨h1, h2, h3, h4, h6⟩ := h
  refine ⟨h1, h2, by rw [e 3 (Or.inl rfl)]; exact h3, by rw [e 3 (Or.inl rfl)]; exact h4, fun j hj => ?_⟩
  obtain ⟨n, g1, g2, g3, g4⟩ := h6 j hj
  have hlt : (x + 11 - j) % 12 < 12 := Nat.mod_lt _ (by decide)
  exact ⟨n, g1, g2, g3.mv g1.2.1 (eqT.rf fun i hi _ => e _ (by omega)), g4⟩
theorem PsM.mv {M M' : mM} {c : Nat} {V : Nat → Nat → Int32} (h : PsM M c V) (e7 : M' 215 7 = M 215 7) (e : M' 220 = M 220) : PsM M' c V := ⟨by rw [e7]; exact h.1, fun j hj => by rw [pW_eq e]; exact h.2 j hj⟩
theorem TS.in216 {n : Nat} {W : Nat → Int32} {M M' : mM} {o : Nat} (h : TS n W M o) (h8 : n ≤ 8) (e : ∀ z, o ≤ z → z ≤ o + 10 → M' z = M z) : TS n W M' o := h.mv h8 (eqT.rf fun j hj _ => e _ (by omega) (by omega))
theorem TS.in8 {n : Nat} {W : Nat → Int32} {M M' : mM} {o : Nat} (h : TS n W M o) (h8 : n ≤ 8) (e : ∀ z, o ≤ z → z ≤ o + 10 → z ≠ o + 8 → M' z = M z) : TS n W M' o := h.mv h8 (eqT.rf fun j hj hj8 => e _ (by omega) (by omega) (by omega))
theorem C_remember {n : Nat} {W : Nat → Int32} {M : mM} {x c : Nat} {V : Nat → Nat → Int32} {l2 : Int32} (h : PsC M x c V l2) (hw : WF n W) (hst : stB n W (fun _ => 0) = true) (ht : TS n W M 35) (hl : W 2 = l2) :
    ∃ M1, f_X3_remember 35 M = some ((), M1) ∧ PsC M1 ((x + 1) % 12) (min 12 (c + 1)) (PsV W V) l2 ∧ ∀ z, z ≠ 3 → (z < 71 ∨ 215 ≤ z) → M1 z = M z := by
  obtain ⟨h1, h2, h3, h4, h6⟩ := h
  have e1 : f_X3_remember 35 M = some ((), mst (mst (cpT (71 + 12 * x) 35 M) 3 1 (nI ((x + 1) % 12))) 3 2 (nI (min 12 (c + 1)))) := by
    unfold f_X3_remember
    have g1 : decide (nI x < 0) = false := decide_eq_false (nI_pos (by omega))
    have g2 : decide ((12 : Int32) ≤ nI x) = false := i_lit (a := 12) (by decide) h1
    rw [gd_t T35, h3, bif_f g1, bif_f g2, gd_t (i_in h1 (by decide)), i_ix (by omega), gd_t (Tk h1), T_copy (Tk h1) T35]
    simp only [b2_s, wr_e]
    have f3 : cpT (71 + 12 * x) 35 M 3 = M 3 := cpT_F 3 (by omega)
    rw [f3, h3, mst_nk (show 2 ≠ 1 by decide), f3, h4, nI_1, nI_1, show (12 : Int32) = nI 12 from rfl, rmd_n (by omega) (by decide) (by decide)]
    have : mMin (nI 12) (nI (c + 1)) = nI (min 12 (c + 1)) := by
      rw [mMin_b, i_le (by decide) (by omega)]
      by_cases hc : 12 ≤ c + 1
      · rw [decide_eq_true hc, Nat.min_eq_left hc]; rfl
      · rw [decide_eq_false hc, Nat.min_eq_right (by omega)]; rfl
    rw [this]
  have eF : ∀ z, z ≠ 3 → mst (mst (cpT (71 + 12 * x) 35 M) 3 1 (nI ((x + 1) % 12))) 3 2 (nI (min 12 (c + 1))) z = cpT (71 + 12 * x) 35 M z := fun z hz => by rw [mst_no hz, mst_no hz]
  refine ⟨_, e1, ⟨Nat.mod_lt _ (by decide), Nat.min_le_left _ _, by rw [mst_nk (by decide), mst_oo], by rw [mst_oo], fun j hj => ?_⟩, fun z hz hz2 => ?_⟩
  · match j with
    | 0 =>
      refine ⟨n, hw, hst, ?_, hl⟩
      have : ((x + 1) % 12 + 11 - 0) % 12 = x := by omega
      rw [this]
      exact (ht.mv hw.2.1 (cpT_e (by omega))).in216 hw.2.1 fun z g1 g2 => eF z (by omega)
    | j + 1 =>
      obtain ⟨n', g1, g2, g3, g4⟩ := h6 j (by omega)
      refine ⟨n', g1, g2, ?_, g4⟩
      have e2 : ((x + 1) % 12 + 11 - (j + 1)) % 12 = (x + 11 - j) % 12 := by omega
      have e3 : (x + 11 - j) % 12 ≠ x := by omega
      rw [e2]
      exact g3.in216 g1.2.1 fun z q1 q2 => by
        rw [eF z (by omega)]
        exact cpT_F z (by omega)
  · rw [eF z hz]
    exact cpT_F z (by omega)
theorem C_recall0 {M : mM} {x : Nat} {V : Nat → Nat → Int32} {l2 : Int32} (h : PsC M x 0 V l2) : f_X3_recall 35 M = some (false, M) := by
  unfold f_X3_recall
  rw [gd_t T35, h.2.2.2.1]
  rfl
theorem C_recall {M : mM} {x c : Nat} {V : Nat → Nat → Int32} {l2 : Int32} (h : PsC M x (c + 1) V l2) :
    ∃ n M1, f_X3_recall 35 M = some (true, M1) ∧ WF n (V 0) ∧ stB n (V 0) (fun _ => 0) = true ∧ TS n (V 0) M1 35 ∧ V 0 2 = l2 ∧ PsC M1 ((x + 11) % 12) c (fun j => V (j + 1)) l2 ∧ ∀ z, z ≠ 3 → (z < 35 ∨ 46 < z) → M1 z = M z := by
  obtain ⟨h1, h2, h3, h4, h6⟩ := h
  obtain ⟨n, g1, g2, g3, g4⟩ := h6 0 (by omega)
  have hx : (x + 11) % 12 < 12 := Nat.mod_lt _ (by decide)
  have e1 : f_X3_recall 35 M = some (true, mst (mst (cpT 35 (71 + 12 * ((x + 11) % 12)) M) 3 1 (nI ((x + 11) % 12))) 3 2 (nI c)) := by
    unfold f_X3_recall
    have q0 : decide (nI (c + 1) ≤ 0) = false := decide_eq_false (nI_nle (by omega) (by omega))
    have q1 : decide (nI ((x + 11) % 12) < 0) = false := decide_eq_false (nI_pos (by omega))
    have q2 : decide ((12 : Int32) ≤ nI ((x + 11) % 12)) = false := i_lit (a := 12) (by decide) hx
    have q3 : rmd (nI x + (12 : Int32) - 1) (12 : Int32) = nI ((x + 11) % 12) := by
      rw [show (12 : Int32) = nI 12 from rfl, nI_add, show x + 12 = x + 11 + 1 from rfl, nI_pred, rmd_n (by omega) (by decide) (by decide)]
    rw [gd_t T35, h4, bif_f q0, h3, q3, bif_f q1, bif_f q2, gd_t (i_in hx (by decide)), i_ix (by omega), gd_t (Tk hx), T_copy T35 (Tk hx)]
    simp only [b2_s, wr_e]
    have f3 : cpT 35 (71 + 12 * ((x + 11) % 12)) M 3 = M 3 := cpT_F 3 (by omega)
    rw [mst_nk (show 2 ≠ 1 by decide), f3, h4, nI_pred]
  have eF : ∀ z, z ≠ 3 → mst (mst (cpT 35 (71 + 12 * ((x + 11) % 12)) M) 3 1 (nI ((x + 11) % 12))) 3 2 (nI c) z = cpT 35 (71 + 12 * ((x + 11) % 12)) M z := fun z hz => by rw [mst_no hz, mst_no hz]
  refine ⟨n, _, e1, g1, g2, ?_, g4, ⟨hx, by omega, by rw [mst_nk (by decide), mst_oo], by rw [mst_oo], fun j hj => ?_⟩, fun z hz hz2 => ?_⟩
  · rw [show x + 11 - 0 = x + 11 from rfl] at g3
    exact (g3.mv g1.2.1 (cpT_e (by omega))).in216 g1.2.1 fun z q1 q2 => eF z (by omega)
  · obtain ⟨n', q1, q2, q3, q4⟩ := h6 (j + 1) (by omega)
    refine ⟨n', q1, q2, ?_, q4⟩
    have e2 : ((x + 11) % 12 + 11 - j) % 12 = (x + 11 - (j + 1)) % 12 := by omega
    rw [e2]
    exact q3.in216 q1.2.1 fun z p1 p2 => by
      rw [eF z (by omega)]
      exact cpT_F z (by omega)
  · rw [eF z hz]
    exact cpT_F z (by omega)
/-! the reference remembers -/
section
variable {M : mM}
theorem m_rem30 {c : Nat} (hc : c < 12) (h7 : M 215 7 = nI (c + 1)) : f_X12_remembers_l30 0 M = some ((), rs M 220 (va_cpy (M 219) (M 220) 0 (424 * c) 424)) := by
  unfold f_X12_remembers_l30
  refine wh_cp (by decide) (by decide) (by decide) (fun k hk M' e => ?_) (fun M' e => rfl)
  show f_X12_remembers_30 (nI k) M' = _
  unfold f_X12_remembers_30
  have q : (424 : Int32) * (M' 215 7 - (1 : Int32)) + nI k = nI (424 * c + k) := by
    rw [e, h7, nI_pred, show (424 : Int32) = nI 424 from rfl, pk_mul, nI_add]
  rw [q, show (424 : Int32) = nI 424 from rfl, bif_f (i_lit (by decide) hk), gd_t (i_in hk (by decide)), gd_t (i_in (by omega) (by decide)), i_ix (by omega), i_ix (by omega), i_1, Nat.zero_add]
  rfl
def shA (A : Nat → Int32) (k : Nat) : Nat → Int32 := fun j => if j < k then A (j + 424) else A j
theorem m_rem6 (h7 : M 215 7 = nI 12) : f_X12_remembers_l6 0 M = some ((), rs M 220 (va_cpy (M 219) (shA (M 220) 4664) 0 4664 424)) := by
  unfold f_X12_remembers_l6
  refine wh_ne (fun k => (nI k, rs M 220 (shA (M 220) k))) 4664 _ (by decide) ?_ (fun k hk => ?_) ?_
  · have : shA (M 220) 0 = M 220 := by
      funext j
      exact if_neg (by omega)
    rw [this, rs_self]
    rfl
  · show f_X12_remembers_6 (nI k) (rs M 220 (shA (M 220) k)) = _
    unfold f_X12_remembers_6
    have q : nI k + (424 : Int32) = nI (k + 424) := nI_add k 424
    rw [show (4664 : Int32) = nI 4664 from rfl, bif_f (i_lit (by decide) hk), q, gd_t (i_in (by omega) (by decide)), gd_t (i_in (by omega) (by decide)), i_ix (by omega), i_ix (by omega), i_1, wr_e, rs_at, rs_st]
    have : upd (shA (M 220) k) k (shA (M 220) k (k + 424)) = shA (M 220) (k + 1) := by
      funext j
      unfold shA
      by_cases h : j = k
      · subst h
        rw [upd_at, if_neg (by omega), if_pos (by omega)]
      · rw [upd_ne h]
        by_cases h2 : j < k
        · rw [if_pos h2, if_pos (by omega)]
        · rw [if_neg h2, if_neg (by omega)]
    rw [this]
  · show f_X12_remembers_6 (nI 4664) (rs M 220 (shA (M 220) 4664)) = _
    unfold f_X12_remembers_6
    rw [bif_t (show decide ((4664 : Int32) ≤ nI 4664) = true from rfl), m_rem30 (c := 11) (by decide) (by rw [rs_ne (show 215 ≠ 220 by decide)]; exact h7), b1_s, rs_ne (show 219 ≠ 220 by decide), rs_at, rs_rs]
theorem m_remembers {c : Nat} {V : Nat → Nat → Int32} (hc : c ≤ 12) (h : PsM M c V) : ∃ M1, f_X12_remembers M = some ((), M1) ∧ PsM M1 (min 12 (c + 1)) (PsV (M 219) V) ∧ (∀ z, z ≠ 215 → z ≠ 220 → M1 z = M z) ∧ ∀ k, k ≠ 7 → M1 215 k = M 215 k := by
  obtain ⟨h5, h7⟩ := h
  unfold f_X12_remembers
  rw [h5, show (12 : Int32) = nI 12 from rfl, dn, i_eq (by omega) (by decide)]
  by_cases hc12 : c = 12
  · subst hc12
    rw [decide_eq_true (rfl : 12 = 12), Bool.not_true, cond_false, m_rem6 h5]
    refine ⟨_, rfl, ⟨by rw [rs_ne (by decide)]; exact h5, fun j hj k hk => ?_⟩, fun z _ hz => rs_ne hz, fun k _ => by rw [rs_ne (by decide)]⟩
    unfold pW
    rw [rs_at]
    match j with
    | 0 =>
      rw [pk_cpy_in (by omega) (by omega)]
      exact congrArg (M 219) (by omega)
    | j + 1 =>
      rw [pk_cpy_out (by omega)]
      unfold shA
      rw [if_pos (by omega)]
      show V j k = _
      rw [h7 j (by omega) k hk]
      unfold pW
      exact congrArg (M 220) (by omega)
  · rw [decide_eq_false hc12, Bool.not_false, cond_true, nI_1, wr_e, m_rem30 (c := c) (by omega) (by rw [mst_oo])]
    refine ⟨_, rfl, ⟨by rw [rs_ne (by decide), mst_oo, Nat.min_eq_right (by omega)], fun j hj k hk => ?_⟩, fun z g1 g2 => by rw [rs_ne g2, mst_no g1], fun k hk => by rw [rs_ne (by decide), mst_nk hk]⟩
    rw [Nat.min_eq_right (by omega)] at hj
    rw [Nat.min_eq_right (by omega)]
    unfold pW
    rw [rs_at, mst_no (by decide), mst_no (by decide)]
    match j with
    | 0 =>
      rw [pk_cpy_in (by omega) (by omega)]
      exact congrArg (M 219) (by omega)
    | j + 1 =>
      rw [pk_cpy_out (by omega)]
      show V j k = _
      rw [h7 j (by omega) k hk]
      unfold pW
      exact congrArg (M 220) (by omega)
end
