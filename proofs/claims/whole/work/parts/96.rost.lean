/-! rosters, as numbers: by the class's table and by the reference's -/
def sbN (s t : Nat) : Bool := decide (s &&& t = s)
theorem sb_wi {s t : Nat} (h1 : s < 256) (h2 : t < 256) : wi (nI s) (nI t) = sbN s t := bool_iff (by
  rw [wi_nat h1 h2]
  unfold sbN
  exact decide_eq_true_iff.symm)
theorem sb_iff {s t : Nat} (h1 : s < 256) (h2 : t < 256) : sbN s t = true ↔ ∀ j, j < 8 → s.testBit j = true → t.testBit j = true := by
  rw [← sb_wi h1 h2, wi_iff (nIs h1)]
  constructor
  · intro h j hj e
    have := h j hj (by rw [hs_nat (by omega) (by omega)]; exact e)
    rw [hs_nat (by omega) (by omega)] at this
    exact this
  · intro h j hj e
    rw [hs_nat (by omega) (by omega)] at e ⊢
    exact h j hj e
theorem sb_le {s t : Nat} (h : sbN s t = true) : s ≤ t := by
  rw [← of_decide_eq_true h]
  exact Nat.and_le_right
theorem tb_8 {t j : Nat} (ht : t < 256) (hj : 8 ≤ j) : t.testBit j = false := Nat.testBit_lt_two_pow (Nat.lt_of_lt_of_le ht (Nat.pow_le_pow_right (by decide) hj : 2 ^ 8 ≤ 2 ^ j))
theorem tb_ext {s t : Nat} (h1 : s < 256) (h2 : t < 256) (h : ∀ j, j < 8 → s.testBit j = t.testBit j) : s = t := Nat.eq_of_testBit_eq fun j => by
  by_cases hj : j < 8
  · exact h j hj
  · rw [tb_8 h1 (by omega), tb_8 h2 (by omega)]
theorem sub_i {t i : Nat} (ht : t < 256) (hi : i < 8) (h : t.testBit i = true) : t - 2 ^ i < 256 ∧ ∀ j, j < 8 → (t - 2 ^ i).testBit j = (t.testBit j && !decide (j = i)) := ⟨Nat.lt_of_le_of_lt (Nat.sub_le _ _) ht, fun j hj => (by decide +kernel : ∀ t, t < 256 → ∀ i, i < 8 → t.testBit i = true → ∀ j, j < 8 → (t - 2 ^ i).testBit j = (t.testBit j && !decide (j = i))) t ht i hi h j hj⟩
/-- the least over the parts of a set -/
def smK (C : Nat → Nat) : Nat → Nat → Nat
  | 0 => C
  | i + 1 => fun t => if t.testBit i then min (smK C i t) (smK C i (t - 2 ^ i)) else smK C i t
theorem smK_s (C : Nat → Nat) (i t : Nat) : smK C (i + 1) t = if t.testBit i then min (smK C i t) (smK C i (t - 2 ^ i)) else smK C i t := rfl
theorem smK_p (C : Nat → Nat) : ∀ i, i ≤ 8 → ∀ t, t < 256 → (∀ s, s < 256 → (∀ j, j < 8 → s.testBit j = true → t.testBit j = true) → (∀ j, i ≤ j → j < 8 → s.testBit j = t.testBit j) → smK C i t ≤ C s) ∧ ∃ s, s < 256 ∧ (∀ j, j < 8 → s.testBit j = true → t.testBit j = true) ∧ (∀ j, i ≤ j → j < 8 → s.testBit j = t.testBit j) ∧ smK C i t = C s := by
  intro i
  induction i with
  | zero =>
    intro _ t ht
    refine ⟨fun s hs1 _ h => ?_, t, ht, fun _ _ h => h, fun _ _ _ => rfl, rfl⟩
    rw [tb_ext hs1 ht fun j hj => h j (Nat.zero_le j) hj]
    exact Nat.le_refl _
  | succ i ih =>
    intro hi t ht
    rw [smK_s]
    obtain ⟨a1, s1, a2, a3, a4, a5⟩ := ih (by omega) t ht
    cases c : t.testBit i
    · rw [if_neg (by decide)]
      refine ⟨fun s g1 g2 g3 => a1 s g1 g2 fun j h1 h2 => ?_, s1, a2, a3, fun j h1 h2 => a4 j (by omega) h2, a5⟩
      by_cases hj : j = i
      · subst hj
        rw [c]
        cases z : s.testBit j
        · rfl
        · have := g2 j h2 z; rw [c] at this; cases this
      · exact g3 j (by omega) h2
    · rw [if_pos rfl]
      obtain ⟨u1, u2⟩ := sub_i ht (show i < 8 by omega) c
      obtain ⟨b1, s2, b2, b3, b4, b5⟩ := ih (by omega) (t - 2 ^ i) u1
      constructor
      · intro s g1 g2 g3
        cases z : s.testBit i
        · refine Nat.le_trans (Nat.min_le_right _ _) (b1 s g1 (fun j hj e => ?_) fun j h1 h2 => ?_)
          · have hji : j ≠ i := fun e' => by rw [e', z] at e; cases e
            rw [u2 j hj, g2 j hj e, decide_eq_false hji]; rfl
          · rw [u2 j h2]
            by_cases hj : j = i
            · rw [hj, z, decide_eq_true rfl, Bool.not_true, Bool.and_false]
            · rw [decide_eq_false hj, Bool.not_false, Bool.and_true]
              exact g3 j (by omega) h2
        · refine Nat.le_trans (Nat.min_le_left _ _) (a1 s g1 g2 fun j h1 h2 => ?_)
          by_cases hj : j = i
          · rw [hj, z, c]
          · exact g3 j (by omega) h2
      · by_cases hle : smK C i t ≤ smK C i (t - 2 ^ i)
        · rw [Nat.min_eq_left hle]
          exact ⟨s1, a2, a3, fun j h1 h2 => a4 j (by omega) h2, a5⟩
        · rw [Nat.min_eq_right (by omega)]
          refine ⟨s2, b2, fun j hj e => ?_, fun j h1 h2 => ?_, b5⟩
          · have := b3 j hj e
            rw [u2 j hj, Bool.and_eq_true] at this
            exact this.1
          · rw [b4 j (by omega) h2, u2 j h2, decide_eq_false (by omega), Bool.not_false, Bool.and_true]
theorem sm_le {C : Nat → Nat} {s t : Nat} (h1 : s < 256) (h2 : t < 256) (h : sbN s t = true) : smK C 8 t ≤ C s := (smK_p C 8 (Nat.le_refl 8) t h2).1 s h1 ((sb_iff h1 h2).mp h) fun j a b => absurd b (by omega)
theorem sm_ex {C : Nat → Nat} {t : Nat} (h2 : t < 256) : ∃ s, s < 256 ∧ sbN s t = true ∧ smK C 8 t = C s := by
  obtain ⟨s, a, b, -, d⟩ := (smK_p C 8 (Nat.le_refl 8) t h2).2
  exact ⟨s, a, (sb_iff a h2).mpr b, d⟩
/-- the least over some of the first -/
def mnK (c : Nat → Bool) (R : Nat → Nat) : Nat → Nat
  | 0 => 1000000
  | k + 1 => if c k then min (mnK c R k) (R k) else mnK c R k
theorem mnK_s (c : Nat → Bool) (R : Nat → Nat) (k : Nat) : mnK c R (k + 1) = if c k then min (mnK c R k) (R k) else mnK c R k := rfl
theorem mn_F {c : Nat → Bool} {R : Nat → Nat} : ∀ k, mnK c R k ≤ 1000000 := by
  intro k
  induction k with
  | zero => exact Nat.le_refl _
  | succ k ih =>
    rw [mnK_s]
    cases c k
    · exact ih
    · exact Nat.le_trans (Nat.min_le_left _ _) ih
theorem mn_le {c : Nat → Bool} {R : Nat → Nat} {s : Nat} (hc : c s = true) : ∀ {k : Nat}, s < k → mnK c R k ≤ R s := by
  intro k
  induction k with
  | zero => intro h; exact absurd h (Nat.not_lt_zero s)
  | succ k ih =>
    intro h
    rw [mnK_s]
    by_cases e : s = k
    · subst e
      rw [hc, if_pos rfl]
      exact Nat.min_le_right _ _
    · have := ih (by omega)
      cases c k
      · exact this
      · exact Nat.le_trans (Nat.min_le_left _ _) this
theorem mn_ex {c : Nat → Bool} {R : Nat → Nat} : ∀ k, mnK c R k = 1000000 ∨ ∃ s, s < k ∧ c s = true ∧ mnK c R k = R s := by
  intro k
  induction k with
  | zero => exact Or.inl rfl
  | succ k ih =>
    have old : mnK c R k = 1000000 ∨ ∃ s, s < k + 1 ∧ c s = true ∧ mnK c R k = R s := by
      rcases ih with h | ⟨s, a, b, d⟩
      · exact Or.inl h
      · exact Or.inr ⟨s, by omega, b, d⟩
    rw [mnK_s]
    cases e : c k
    · exact old
    · rw [if_pos rfl]
      by_cases hle : mnK c R k ≤ R k
      · rw [Nat.min_eq_left hle]; exact old
      · rw [Nat.min_eq_right (by omega)]
        exact Or.inr ⟨k, by omega, e, rfl⟩
/-- what stands in the sets together -/
def fsN (fu : Nat → Nat) (t : Nat) : Nat := sN (fun j => if t.testBit j then fu j else 0) 8
/-- by the class: of so many hours left, the fewest places by a part of a set; the cost of just this set -/
def rF (e x : Nat) (fu : Nat → Nat) : Nat → Nat → Nat
  | 0 => fun _ => 0
  | r + 1 => smK (fun s => if sbN s e && decide (x ≤ fsN fu s) then cn s + rF e x fu r (e - s) else 10000) 8
def rC (e x : Nat) (fu : Nat → Nat) (r s : Nat) : Nat := if sbN s e && decide (x ≤ fsN fu s) then cn s + rF e x fu r (e - s) else 10000
theorem rF_s (e x : Nat) (fu : Nat → Nat) (r : Nat) : rF e x fu (r + 1) = smK (rC e x fu r) 8 := rfl
/-- by the reference -/
def rR (e x : Nat) (fu : Nat → Nat) (N : Nat) : Nat → Nat → Nat
  | 0 => fun _ => 0
  | k + 1 => fun s => if sbN s e && decide (x ≤ fsN fu s) then min 1000000 ((if k = 0 then 0 else mnK (fun s' => decide (s' &&& s = 0)) (rR e x fu N k) N) + cn s) else 1000000
theorem rR_s (e x : Nat) (fu : Nat → Nat) (N k s : Nat) : rR e x fu N (k + 1) s = if sbN s e && decide (x ≤ fsN fu s) then min 1000000 ((if k = 0 then 0 else mnK (fun s' => decide (s' &&& s = 0)) (rR e x fu N k) N) + cn s) else 1000000 := rfl
theorem df_b {e s : Nat} (he : e < 256) (h : sbN s e = true) {j : Nat} (hj : j < 8) : (e - s).testBit j = (e.testBit j && !s.testBit j) := by
  have hle := sb_le h
  have h1 := (wi_sub (t := e - s) (u := e) (by omega) he (by rw [wi_rev hle he, sb_wi (by omega) he]; exact h)).2
  rw [show e - (e - s) = s by omega] at h1
  have h2 := congrArg (fun z => hs z j) h1
  rw [hs_and, hs_nn (by omega), hs_nat (by omega) (by omega), hs_nat (by omega) (by omega), hs_nat (by omega) (by omega)] at h2
  exact h2.symm
theorem i_df {e s : Nat} (he : e < 256) (h : sbN s e = true) : nI e &&& (nI s ^^^ (-1 : Int32)) = nI (e - s) := by
  have hle := sb_le h
  have h1 := (wi_sub (t := e - s) (u := e) (by omega) he (by rw [wi_rev hle he, sb_wi (by omega) he]; exact h)).2
  rw [show e - (e - s) = s by omega] at h1
  exact h1
theorem dj_iff {a b : Nat} (ha : a < 256) : decide (a &&& b = 0) = true ↔ ∀ j, j < 8 → a.testBit j = true → b.testBit j = false := by
  rw [decide_eq_true_iff]
  constructor
  · intro h j _ e
    have := congrArg (fun z : Nat => z.testBit j) h
    rw [Nat.testBit_and, e, Bool.true_and, Nat.zero_testBit] at this
    exact this
  · intro h
    refine Nat.eq_of_testBit_eq fun j => ?_
    rw [Nat.testBit_and, Nat.zero_testBit]
    by_cases hj : j < 8
    · cases z : a.testBit j
      · rfl
      · rw [h j hj z]; rfl
    · rw [tb_8 ha (by omega), Bool.false_and]
/-- apart from s, within e: within what is left -/
theorem dj_df {e s t : Nat} (he : e < 256) (h : sbN s e = true) (ht : t < 256) : (decide (t &&& s = 0) = true ∧ sbN t e = true) ↔ sbN t (e - s) = true := by
  rw [dj_iff ht, sb_iff ht he, sb_iff ht (by omega)]
  constructor
  · rintro ⟨h1, h2⟩ j hj z
    rw [df_b he h hj, h1 j hj z, h2 j hj z]
    rfl
  · intro h1
    refine ⟨fun j hj z => ?_, fun j hj z => ?_⟩
    · have := h1 j hj z
      rw [df_b he h hj, Bool.and_eq_true] at this
      cases c : s.testBit j
      · rfl
      · rw [c] at this; exact absurd this.2 (by decide)
    · have := h1 j hj z
      rw [df_b he h hj, Bool.and_eq_true] at this
      exact this.1
theorem df_sb {e s : Nat} (he : e < 256) (h : sbN s e = true) : sbN (e - s) e = true := (sb_iff (by omega) he).mpr fun j hj z => by
  rw [df_b he h hj, Bool.and_eq_true] at z
  exact z.1
section
variable {e x N : Nat} {fu : Nat → Nat}
/-- both say the same of one set -/
def rel1 (e x : Nat) (fu : Nat → Nat) (N k s : Nat) : Prop := (rR e x fu N (k + 1) s ≤ 8 * (k + 1) ∧ rC e x fu k s = rR e x fu N (k + 1) s ∧ sbN s e = true) ∨ (rR e x fu N (k + 1) s = 1000000 ∧ 10000 ≤ rC e x fu k s)
theorem ro_F {k : Nat} (hk : k ≤ 100) (he : e < N) (hN : N ≤ 256) (hr : ∀ s, s < 256 → rel1 e x fu N k s) {t : Nat} (hte : sbN t e = true) {c : Nat → Bool} (hc : ∀ s, s < N → ((c s = true ∧ sbN s e = true) ↔ sbN s t = true)) : (mnK c (rR e x fu N (k + 1)) N ≤ 8 * (k + 1) ∧ rF e x fu (k + 1) t = mnK c (rR e x fu N (k + 1)) N) ∨ (mnK c (rR e x fu N (k + 1)) N = 1000000 ∧ 10000 ≤ rF e x fu (k + 1) t) := by
  have ht : t < 256 := by have := sb_le hte; omega
  have hin : ∀ s, s < 256 → sbN s t = true → s < N ∧ c s = true := fun s _ h => by
    have := sb_le h
    have := sb_le hte
    exact ⟨by omega, ((hc s (by omega)).mpr h).1⟩
  obtain ⟨s0, a1, a2, a3⟩ := sm_ex (C := rC e x fu k) ht
  rw [rF_s]
  rcases mn_ex (c := c) (R := rR e x fu N (k + 1)) N with h | ⟨s1, b1, b2, b3⟩
  · right
    refine ⟨h, ?_⟩
    rw [a3]
    obtain ⟨g1, g2⟩ := hin s0 a1 a2
    have := mn_le (R := rR e x fu N (k + 1)) g2 g1
    rcases hr s0 a1 with ⟨r1, -, -⟩ | ⟨-, r2⟩
    · omega
    · exact r2
  · rcases hr s1 (by omega) with ⟨r1, r2, r3⟩ | ⟨r1, -⟩
    · left
      have hst := (hc s1 b1).mp ⟨b2, r3⟩
      refine ⟨by omega, ?_⟩
      have l1 := sm_le (C := rC e x fu k) (s := s1) (by omega) ht hst
      obtain ⟨g1, g2⟩ := hin s0 a1 a2
      have l2 := mn_le (R := rR e x fu N (k + 1)) g2 g1
      rcases hr s0 a1 with ⟨q1, q2, -⟩ | ⟨-, q2⟩
      · omega
      · omega
    · right
      refine ⟨by omega, ?_⟩
      rw [a3]
      obtain ⟨g1, g2⟩ := hin s0 a1 a2
      have := mn_le (R := rR e x fu N (k + 1)) g2 g1
      rcases hr s0 a1 with ⟨q1, -, -⟩ | ⟨-, q2⟩
      · omega
      · exact q2
theorem ro_1 (he : e < N) (hN : N ≤ 256) : ∀ k, k ≤ 100 → ∀ s, s < 256 → rel1 e x fu N k s := by
  intro k
  induction k with
  | zero =>
    intro _ s hs1
    unfold rel1 rC
    rw [rR_s, if_pos rfl]
    cases c : sbN s e && decide (x ≤ fsN fu s)
    · rw [if_neg (by decide), if_neg (by decide)]
      exact Or.inr ⟨rfl, Nat.le_refl _⟩
    · rw [if_pos rfl, if_pos rfl]
      rw [Bool.and_eq_true] at c
      have := cn_le s
      refine Or.inl ⟨by omega, ?_, c.1⟩
      show cn s + 0 = _
      omega
  | succ k ih =>
    intro hk s hs1
    have ih := ih (by omega)
    unfold rel1 rC
    rw [rR_s, if_neg (Nat.succ_ne_zero k)]
    cases c : sbN s e && decide (x ≤ fsN fu s)
    · rw [if_neg (by decide), if_neg (by decide)]
      exact Or.inr ⟨rfl, Nat.le_refl _⟩
    · rw [if_pos rfl, if_pos rfl]
      rw [Bool.and_eq_true] at c
      have h8 := cn_le s
      rcases ro_F (k := k) (by omega) he hN ih (df_sb (by omega) c.1) (c := fun s' => decide (s' &&& s = 0)) fun s' h' => dj_df (by omega) c.1 (by omega) with ⟨a, b⟩ | ⟨a, b⟩
      · left
        refine ⟨by omega, ?_, c.1⟩
        rw [b]
        omega
      · right
        refine ⟨by omega, by omega⟩
theorem rF_le : ∀ (r t : Nat), t < 256 → e < 256 → rF e x fu r t ≤ 10000 + 8 * r := by
  intro r
  induction r with
  | zero => intro t _ _; exact Nat.zero_le _
  | succ r ih =>
    intro t ht he
    rw [rF_s]
    refine Nat.le_trans (sm_le ht ht ((sb_iff ht ht).mpr fun _ _ h => h)) ?_
    unfold rC
    cases c : sbN t e && decide (x ≤ fsN fu t)
    · rw [if_neg (by decide)]; omega
    · rw [if_pos rfl]
      have := ih (e - t) (by omega) he
      have := cn_le t
      omega
theorem rC_le {r s : Nat} (he : e < 256) : rC e x fu r s ≤ 10000 + 8 * (r + 1) := by
  unfold rC
  cases c : sbN s e && decide (x ≤ fsN fu s)
  · rw [if_neg (by decide)]; omega
  · rw [if_pos rfl]
    have := rF_le (x := x) (fu := fu) r (e - s) (by omega) he
    have := cn_le s
    omega
theorem rR_le {k s : Nat} : rR e x fu N k s ≤ 1000000 := by
  cases k with
  | zero => exact Nat.zero_le _
  | succ k =>
    rw [rR_s]
    cases c : sbN s e && decide (x ≤ fsN fu s)
    · rw [if_neg (by decide)]; exact Nat.le_refl _
    · rw [if_pos rfl]; exact Nat.min_le_left _ _
/-- the sets of a roster, hour by hour: rest hours are left -/
def pcK (e x : Nat) (fu : Nat → Nat) (k t s : Nat) : Bool := sbN s t && decide (rC e x fu k s = rF e x fu (k + 1) t)
theorem pc_p {k t : Nat} (ht : t < 256) : exK (pcK e x fu k t) 256 = true := by
  obtain ⟨s, a, b, c⟩ := sm_ex (C := rC e x fu k) ht
  refine exK_iff.mpr ⟨s, a, ?_⟩
  unfold pcK
  rw [b, Bool.true_and, rF_s, c, decide_eq_true rfl]
theorem pc_pr {k w : Nat} (hk : k ≤ 100) (he : e < N) (hN : N ≤ 256) (hw : sbN w e = true) (hf : rF e x fu (k + 1) (e - w) < 10000) {s : Nat} (hs1 : s < N) : (decide (s &&& w = 0) && decide (rR e x fu N (k + 1) s = rF e x fu (k + 1) (e - w))) = pcK e x fu k (e - w) s := by
  have hr := ro_1 (x := x) (fu := fu) he hN k hk s (by omega)
  have hd := dj_df (e := e) (s := w) (t := s) (by omega) hw (by omega)
  refine bool_iff ?_
  unfold pcK
  rw [Bool.and_eq_true, Bool.and_eq_true, decide_eq_true_iff (p := rR e x fu N (k + 1) s = _), decide_eq_true_iff (p := rC e x fu k s = _)]
  constructor
  · rintro ⟨h1, h2⟩
    rcases hr with ⟨r1, r2, r3⟩ | ⟨r1, -⟩
    · exact ⟨hd.mp ⟨h1, r3⟩, by omega⟩
    · omega
  · rintro ⟨h1, h2⟩
    obtain ⟨d1, d2⟩ := hd.mpr h1
    refine ⟨d1, ?_⟩
    rcases hr with ⟨r1, r2, r3⟩ | ⟨-, r2⟩
    · omega
    · omega
def wqK (e x : Nat) (fu : Nat → Nat) (n : Nat) : Nat → Nat
  | 0 => 0
  | h + 1 => fsK (pcK e x fu (n - h - 1) (e - wqK e x fu n h)) 256
theorem wq_s (n h : Nat) : wqK e x fu n (h + 1) = fsK (pcK e x fu (n - h - 1) (e - wqK e x fu n h)) 256 := rfl
theorem wq_step {n h : Nat} (he : e < N) (hN : N ≤ 256) (h0 : sbN (wqK e x fu n h) e = true) (h1 : rF e x fu (n - h) (e - wqK e x fu n h) < 10000) (hn0 : h < n) : wqK e x fu n (h + 1) < N ∧ pcK e x fu (n - h - 1) (e - wqK e x fu n h) (wqK e x fu n (h + 1)) = true ∧ (∀ s, s < wqK e x fu n (h + 1) → pcK e x fu (n - h - 1) (e - wqK e x fu n h) s = false) ∧ rF e x fu (n - h) (e - wqK e x fu n h) = cn (wqK e x fu n (h + 1)) + rF e x fu (n - (h + 1)) (e - wqK e x fu n (h + 1)) := by
  have hle := sb_le h0
  obtain ⟨g1, g2, g3⟩ := fsK_p (pc_p (e := e) (x := x) (fu := fu) (k := n - h - 1) (t := e - wqK e x fu n h) (by omega))
  rw [← wq_s] at g1 g2 g3
  have h2 := g1
  unfold pcK at h2
  rw [Bool.and_eq_true, decide_eq_true_iff] at h2
  have hl2 := sb_le h2.1
  refine ⟨by omega, g1, g3, ?_⟩
  have e1 : n - h = n - h - 1 + 1 := by omega
  rw [e1, ← h2.2, show n - (h + 1) = n - h - 1 by omega]
  have hsb : sbN (wqK e x fu n (h + 1)) e = true := ((dj_df (by omega) h0 (by omega)).mpr h2.1).2
  rw [e1, ← h2.2] at h1
  unfold rC at h1 ⊢
  cases c : sbN (wqK e x fu n (h + 1)) e && decide (x ≤ fsN fu (wqK e x fu n (h + 1)))
  · rw [c, if_neg (by decide)] at h1; omega
  · rw [if_pos rfl]
/-- all that both go by -/
theorem wq_p {n : Nat} (he : e < N) (hN : N ≤ 256) (hf : rF e x fu n e < 10000) (hn : n ≤ 100) : ∀ h, h ≤ n → sbN (wqK e x fu n h) e = true ∧ rF e x fu (n - h) (e - wqK e x fu n h) < 10000 ∧ (h < n → wqK e x fu n (h + 1) < N ∧ pcK e x fu (n - h - 1) (e - wqK e x fu n h) (wqK e x fu n (h + 1)) = true ∧ (∀ s, s < wqK e x fu n (h + 1) → pcK e x fu (n - h - 1) (e - wqK e x fu n h) s = false) ∧ rF e x fu (n - h) (e - wqK e x fu n h) = cn (wqK e x fu n (h + 1)) + rF e x fu (n - (h + 1)) (e - wqK e x fu n (h + 1))) := by
  intro h
  induction h with
  | zero =>
    intro _
    have h0 : sbN (wqK e x fu n 0) e = true := by
      unfold sbN
      exact decide_eq_true (Nat.zero_and e)
    have h1 : rF e x fu (n - 0) (e - wqK e x fu n 0) < 10000 := by
      rw [show e - wqK e x fu n 0 = e from Nat.sub_zero e, Nat.sub_zero]
      exact hf
    refine ⟨h0, h1, fun hn0 => ?_⟩
    exact wq_step he hN h0 h1 hn0
  | succ h ih =>
    intro hh
    obtain ⟨a, b, c⟩ := ih (by omega)
    obtain ⟨c1, c2, c3, c4⟩ := c (by omega)
    have h0 : sbN (wqK e x fu n (h + 1)) e = true := by
      have h1 : sbN (wqK e x fu n (h + 1)) (e - wqK e x fu n h) = true := by
        unfold pcK at c2
        rw [Bool.and_eq_true] at c2
        exact c2.1
      exact ((dj_df (by omega) a (by omega)).mpr h1).2
    have h1 : rF e x fu (n - (h + 1)) (e - wqK e x fu n (h + 1)) < 10000 := by omega
    exact ⟨h0, h1, fun hn0 => wq_step he hN h0 h1 hn0⟩
end
