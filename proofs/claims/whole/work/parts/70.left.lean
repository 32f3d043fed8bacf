/-! left, pillars -/
theorem hs_nat {t j : Nat} (ht : t < 2 ^ 31) (hj : j < 32) : hs (nI t) j = t.testBit j := by
  show (BitVec.ofNat 32 t).getLsbD j = _
  rw [BitVec.getLsbD_ofNat, decide_eq_true hj, Bool.true_and]
theorem sub_bits : ∀ u, u < 256 → ∀ t, t < 256 → (t &&& u) = t → ((u - t) ||| t) = u ∧ ((u - t) &&& t) = 0 := by decide +kernel
theorem wi_nat {t u : Nat} (ht : t < 256) (hu : u < 256) : wi (nI t) (nI u) = true ↔ (t &&& u) = t := by
  rw [wi_iff (nIs ht)]
  constructor
  · intro h
    refine Nat.eq_of_testBit_eq fun j => ?_
    rw [Nat.testBit_and]
    by_cases hj : j < 8
    · have := h j hj
      rw [hs_nat (by omega) (by omega), hs_nat (by omega) (by omega)] at this
      cases e : t.testBit j
      · rfl
      · rw [this e]; rfl
    · have : t.testBit j = false := Nat.testBit_lt_two_pow (Nat.lt_of_lt_of_le ht (Nat.pow_le_pow_right (by decide) (by omega) : 2 ^ 8 ≤ 2 ^ j))
      rw [this, Bool.false_and]
  · intro h j hj e
    rw [hs_nat (by omega) (by omega)] at e ⊢
    rw [← h, Nat.testBit_and, Bool.and_eq_true] at e
    exact e.2
theorem wi_le {t u : Nat} (ht : t < 256) (hu : u < 256) (h : wi (nI t) (nI u) = true) : t ≤ u := by
  rw [← (wi_nat ht hu).mp h]
  exact Nat.and_le_right
theorem wi_sub {t u : Nat} (ht : t ≤ u) (hu : u < 256) (h : wi (nI t) (nI u) = true) : wi (nI (u - t)) (nI u) = true ∧ nI u &&& (nI (u - t) ^^^ (-1 : Int32)) = nI t := by
  obtain ⟨h1, h2⟩ := sub_bits u hu t (by omega) ((wi_nat (by omega) hu).mp h)
  have b1 : ∀ j, ((u - t).testBit j || t.testBit j) = u.testBit j := fun j => by rw [← Nat.testBit_or, h1]
  have b2 : ∀ j, ((u - t).testBit j && t.testBit j) = false := fun j => by rw [← Nat.testBit_and, h2, Nat.zero_testBit]
  constructor
  · rw [wi_iff (nIs (by omega))]
    intro j hj e
    rw [hs_nat (by omega) (by omega)] at e ⊢
    rw [← b1 j, e]
    rfl
  · refine hs_ext fun j hj => ?_
    rw [hs_and, hs_nn hj, hs_nat (by omega) hj, hs_nat (by omega) hj, hs_nat (by omega) hj, ← b1 j]
    have b := b2 j
    revert b
    cases (u - t).testBit j <;> cases t.testBit j <;> intro b <;> first | rfl | cases b
theorem wi_rev {t u : Nat} (ht : t ≤ u) (hu : u < 256) : wi (nI (u - t)) (nI u) = wi (nI t) (nI u) := bool_iff ⟨fun h => by
  have := (wi_sub (t := u - t) (by omega) hu h).1
  rw [show u - (u - t) = t by omega] at this
  exact this, fun h => (wi_sub ht hu h).1⟩
theorem cnt_sub {a b : Int32} (h : ∀ j, j < 8 → hs a j = true → hs b j = true) : ∀ k, k ≤ 8 → cntK a k ≤ cntK b k ∧ (cntK b k ≤ cntK a k → ∀ j, j < k → hs a j = hs b j) := by
  intro k
  induction k with
  | zero => intro _; exact ⟨Nat.le_refl _, fun _ j hj => absurd hj (Nat.not_lt_zero j)⟩
  | succ k ih =>
    intro hk
    obtain ⟨i1, i2⟩ := ih (by omega)
    have hk' := h k (by omega)
    rw [cntK_s, cntK_s]
    cases ea : hs a k
    · cases eb : hs b k
      · simp only [cond_false]
        refine ⟨by omega, fun hle j hj => ?_⟩
        by_cases hjk : j = k
        · rw [hjk, ea, eb]
        · exact i2 (by omega) j (by omega)
      · simp only [cond_false, cond_true]
        refine ⟨by omega, fun hle j hj => ?_⟩
        omega
    · rw [hk' ea]
      simp only [cond_true]
      refine ⟨by omega, fun hle j hj => ?_⟩
      by_cases hjk : j = k
      · rw [hjk, ea, hk' ea]
      · exact i2 (by omega) j (by omega)
def cn (t : Nat) : Nat := cntK (nI t) 8
theorem bc_cn {t : Nat} (ht : t < 256) : bc (nI t) = nI (cn t) := bc_cnt (nIs ht)
theorem cn_le (t : Nat) : cn t ≤ 8 := cntK_le _ 8
theorem cn_sub {t u : Nat} (ht : t < 256) (hu : u < 256) (h : wi (nI t) (nI u) = true) : cn t ≤ cn u ∧ (cn u ≤ cn t → t = u) := by
  obtain ⟨h1, h2⟩ := cnt_sub ((wi_iff (nIs ht)).mp h) 8 (Nat.le_refl 8)
  refine ⟨h1, fun hle => ?_⟩
  have e : nI t = nI u := S8.ext (nIs ht) (nIs hu) fun j hj => h2 hle j hj
  exact (nI_eq (by omega) (by omega)).mp e
/-- the best of those for which F, by count and then by number -/
def lxl (a t : Nat) : Prop := cn a < cn t ∨ (cn a = cn t ∧ a ≤ t)
def bst (F : Nat → Bool) (u a : Nat) : Prop := (a = u ∨ F a = true) ∧ ∀ t, t < 256 → F t = true → lxl a t
theorem bst_eq {F : Nat → Bool} {u a b : Nat} (hu : u < 256) (hF : ∀ t, t < 256 → F t = true → wi (nI t) (nI u) = true) (ha : bst F u a) (hb : bst F u b) (la : a < 256) (lb : b < 256) : a = b := by
  have key : ∀ x y, bst F u x → bst F u y → x < 256 → y < 256 → x = u → F y = true → x = y := fun x y hx hy lx ly ex fy => by
    obtain ⟨c1, c2⟩ := cn_sub ly hu (hF y ly fy)
    subst ex
    rcases hx.2 y ly fy with h | ⟨h, -⟩
    · omega
    · exact (c2 (by omega)).symm
  rcases ha.1 with e1 | e1
  · rcases hb.1 with e2 | e2
    · rw [e1, e2]
    · exact key a b ha hb la lb e1 e2
  · rcases hb.1 with e2 | e2
    · exact (key b a hb ha lb la e2 e1).symm
    · have h1 := ha.2 b lb e2
      have h2 := hb.2 a la e1
      unfold lxl at h1 h2
      omega
def lfC (F : Nat → Bool) (u : Nat) : Nat → Nat
  | 0 => u
  | k + 1 => bif decide (cn (lfC F u k) ≤ cn k) then lfC F u k else bif F k then k else lfC F u k
def lfM (F : Nat → Bool) (u : Nat) : Nat → Nat
  | 0 => u
  | i + 1 => bif F (u - i) && decide (cn (u - i) ≤ cn (lfM F u i)) then u - i else lfM F u i
theorem lfC_s (F : Nat → Bool) (u k : Nat) : lfC F u (k + 1) = bif decide (cn (lfC F u k) ≤ cn k) then lfC F u k else bif F k then k else lfC F u k := rfl
theorem lfM_s (F : Nat → Bool) (u i : Nat) : lfM F u (i + 1) = bif F (u - i) && decide (cn (u - i) ≤ cn (lfM F u i)) then u - i else lfM F u i := rfl
theorem lfC_lt {F : Nat → Bool} {u : Nat} (hu : u < 256) : ∀ k, k ≤ 256 → lfC F u k < 256 := by
  intro k
  induction k with
  | zero => intro _; exact hu
  | succ k ih =>
    intro hk
    have := ih (by omega)
    rw [lfC_s]
    cases decide (cn (lfC F u k) ≤ cn k)
    · cases F k
      · exact this
      · show k < 256
        omega
    · exact this
theorem lfM_lt {F : Nat → Bool} {u : Nat} (hu : u < 256) : ∀ k, lfM F u k < 256 := by
  intro k
  induction k with
  | zero => exact hu
  | succ k ih =>
    rw [lfM_s]
    cases F (u - k) && decide (cn (u - k) ≤ cn (lfM F u k))
    · exact ih
    · show u - k < 256
      omega
theorem lfC_b {F : Nat → Bool} {u : Nat} (hu : u < 256) (hF : ∀ t, t < 256 → F t = true → wi (nI t) (nI u) = true) : bst F u (lfC F u 256) := by
  have key : ∀ k, k ≤ 256 → (lfC F u k = u ∨ (F (lfC F u k) = true ∧ lfC F u k < k)) ∧ ∀ t, t < k → F t = true → lxl (lfC F u k) t := by
    intro k
    induction k with
    | zero => intro _; exact ⟨Or.inl rfl, fun t ht => absurd ht (Nat.not_lt_zero t)⟩
    | succ k ih =>
      intro hk
      obtain ⟨h1, h2⟩ := ih (by omega)
      rw [lfC_s]
      by_cases hle : cn (lfC F u k) ≤ cn k
      · rw [decide_eq_true hle, cond_true]
        refine ⟨h1.imp id fun h => ⟨h.1, by omega⟩, fun t ht hf => ?_⟩
        by_cases htk : t = k
        · subst htk
          rcases h1 with e | ⟨e, hl⟩
          · obtain ⟨c1, c2⟩ := cn_sub (by omega) hu (hF t (by omega) hf)
            rw [e] at hle ⊢
            have := c2 hle
            subst this
            exact Or.inr ⟨rfl, Nat.le_refl _⟩
          · unfold lxl
            omega
        · exact h2 t (by omega) hf
      · rw [decide_eq_false hle, cond_false]
        cases hf0 : F k
        · rw [cond_false]
          refine ⟨h1.imp id fun h => ⟨h.1, by omega⟩, fun t ht hf => ?_⟩
          by_cases htk : t = k
          · subst htk; rw [hf0] at hf; cases hf
          · exact h2 t (by omega) hf
        · rw [cond_true]
          refine ⟨Or.inr ⟨hf0, by omega⟩, fun t ht hf => ?_⟩
          by_cases htk : t = k
          · subst htk; exact Or.inr ⟨rfl, Nat.le_refl _⟩
          · have := h2 t (by omega) hf
            unfold lxl at this ⊢
            omega
  obtain ⟨h1, h2⟩ := key 256 (Nat.le_refl _)
  exact ⟨h1.imp id fun h => h.1, h2⟩
theorem lfM_b {F : Nat → Bool} {u : Nat} (hu : u < 256) (hF : ∀ t, t < 256 → F t = true → wi (nI t) (nI u) = true) (hF0 : F 0 = false) : bst F u (lfM F u u) := by
  have key : ∀ i, i ≤ u → (lfM F u i = u ∨ F (lfM F u i) = true) ∧ ∀ t, u < t + i → t ≤ u → F t = true → lxl (lfM F u i) t := by
    intro i
    induction i with
    | zero => intro _; exact ⟨Or.inl rfl, fun t h1 h2 _ => by omega⟩
    | succ i ih =>
      intro hi
      obtain ⟨h1, h2⟩ := ih (by omega)
      rw [lfM_s]
      cases hf0 : F (u - i)
      · rw [Bool.false_and, cond_false]
        refine ⟨h1, fun t ht htu hf => ?_⟩
        by_cases htk : t = u - i
        · subst htk; rw [hf0] at hf; cases hf
        · exact h2 t (by omega) htu hf
      · rw [Bool.true_and]
        by_cases hle : cn (u - i) ≤ cn (lfM F u i)
        · rw [decide_eq_true hle, cond_true]
          refine ⟨Or.inr hf0, fun t ht htu hf => ?_⟩
          by_cases htk : t = u - i
          · subst htk; exact Or.inr ⟨rfl, Nat.le_refl _⟩
          · have := h2 t (by omega) htu hf
            unfold lxl at this ⊢
            omega
        · rw [decide_eq_false hle, cond_false]
          refine ⟨h1, fun t ht htu hf => ?_⟩
          by_cases htk : t = u - i
          · subst htk
            exact Or.inl (by omega)
          · exact h2 t (by omega) htu hf
  obtain ⟨h1, h2⟩ := key u (Nat.le_refl _)
  refine ⟨h1, fun t ht hf => h2 t ?_ (wi_le ht hu (hF t ht hf)) hf⟩
  cases t with
  | zero => rw [hF0] at hf; cases hf
  | succ t => omega
section
variable {n : Nat} {M : mM}
/-- those of the uppermost ring -/
def topS (n : Nat) (W : Nat → Int32) : Int32 := bif inR n W 8 4 then rgS n W 4 else bif inR n W 8 3 then rgS n W 3 else bif inR n W 8 2 then rgS n W 2 else bif inR n W 8 1 then rgS n W 1 else rgS n W 0
theorem rg_nB (W : Nat → Int32) {r : Nat} : decide (¬ rgS n W (nI r) = 0) = inR n W 8 r := by rw [dn, ring_ne, Bool.not_not]
theorem M_upper {N : mM} (hn : N 216 0 = nI n) (h8 : n ≤ 8) : f_X12_uppermost N = some (topS n (N 216)) := by
  have st : ∀ r, 1 ≤ r → r ≤ 4 → f_X12_uppermost_2 (nI r) N = bif inR n (N 216) 8 r then some (.inl (rgS n (N 216) (nI r))) else some (.inr (nI r + (-1 : Int32))) := fun r h1 h4 => by
    unfold f_X12_uppermost_2 f_X12_uppermost_10
    rw [show decide (nI r ≤ 0) = false from (i_le (a := r) (b := 0) (by omega) (by decide)).trans (decide_eq_false (by omega)), cond_false, m_those hn h8, b1_s, rg_nB, b1_s]
    cases inR n (N 216) 8 r
    · rw [cond_false, cond_false]
    · rw [cond_true, cond_true]
      rfl
  have s0 : f_X12_uppermost_2 0 N = some (.inl (rgS n (N 216) 0)) := by
    unfold f_X12_uppermost_2 f_X12_uppermost_10
    rw [show decide ((0 : Int32) ≤ 0) = true from rfl, cond_true, m_those hn h8, b1_s]
    rfl
  unfold f_X12_uppermost f_X12_uppermost_l2 topS
  have s4 := st 4 (by decide) (by decide)
  have s3 := st 3 (by decide) (by decide)
  have s2 := st 2 (by decide) (by decide)
  have s1 := st 1 (by decide) (by decide)
  cases c4 : inR n (N 216) 8 4
  · rw [cond_false]
    rw [c4, cond_false] at s4
    cases c3 : inR n (N 216) 8 3
    · rw [cond_false]
      rw [c3, cond_false] at s3
      cases c2 : inR n (N 216) 8 2
      · rw [cond_false]
        rw [c2, cond_false] at s2
        cases c1 : inR n (N 216) 8 1
        · rw [c1, cond_false] at s1
          rw [cond_false]
          refine wh_ne (fun k => nI (4 - k)) 4 _ (by decide) rfl (fun k hk => ?_) s0
          match k, hk with
          | 0, _ => exact s4
          | 1, _ => exact s3
          | 2, _ => exact s2
          | 3, _ => exact s1
        · rw [c1, cond_true] at s1
          rw [cond_true]
          refine wh_ne (fun k => nI (4 - k)) 3 _ (by decide) rfl (fun k hk => ?_) s1
          match k, hk with
          | 0, _ => exact s4
          | 1, _ => exact s3
          | 2, _ => exact s2
      · rw [c2, cond_true] at s2
        rw [cond_true]
        refine wh_ne (fun k => nI (4 - k)) 2 _ (by decide) rfl (fun k hk => ?_) s2
        match k, hk with
        | 0, _ => exact s4
        | 1, _ => exact s3
    · rw [c3, cond_true] at s3
      rw [cond_true]
      refine wh_ne (fun k => nI (4 - k)) 1 _ (by decide) rfl (fun k hk => ?_) s3
      match k, hk with
      | 0, _ => exact s4
  · rw [c4, cond_true] at s4
    rw [cond_true]
    exact wh_ne (fun k => nI (4 - k)) 0 _ (by decide) rfl (fun k hk => absurd hk (Nat.not_lt_zero k)) s4
theorem C_inNone (h : TR n (M 216) M 35) (h0 : ∀ p, p < n → upB (M 216) p = false) : f_X9_inRing 35 (-1) M = some 0 := by
  unfold f_X9_inRing f_X9_inRing_l4
  rw [gd_t T35]
  refine wh_8e (fun k => ((0 : Int32), nI k)) _ rfl (fun k hk => ?_) ?_
  · show f_X9_inRing_4 35 (-1) 0 (nI k) M = _
    unfold f_X9_inRing_4
    have : (decide (k < n) && upB (M 216) k) = false := by
      by_cases hk : k < n
      · rw [h0 k hk, Bool.and_false]
      · rw [decide_eq_false hk, Bool.false_and]
    rw [bif_f (i_8 hk), h.2.1, has_hs (by omega), hs_ups hk, this, cond_false, i_1]
  · show f_X9_inRing_4 35 (-1) 0 (nI 8) M = _
    unfold f_X9_inRing_4
    rw [bif_t i_88]
theorem C_top (h : Rl n M) : ∃ v, f_X9_uppermost 35 M = some v ∧ f_X9_inRing 35 v M = some (topS n (M 216)) := by
  refine ⟨_, C_upper h.tr h.wf T35, ?_⟩
  unfold topR topS
  cases c4 : inR n (M 216) 8 4
  · rw [cond_false, cond_false]
    cases c3 : inR n (M 216) 8 3
    · rw [cond_false, cond_false]
      cases c2 : inR n (M 216) 8 2
      · rw [cond_false, cond_false]
        cases c1 : inR n (M 216) 8 1
        · rw [cond_false, cond_false]
          cases c0 : inR n (M 216) 8 0
          · rw [cond_false, C_inNone h.tr fun p hp => ?_]
            · have := ring_ne (n := n) (W := M 216) (r := 0)
              rw [c0, Bool.not_false] at this
              exact congrArg some (of_decide_eq_true this).symm
            · rcases h.wf.rg hp with e | ⟨r, hr, e⟩
              · unfold upB; rw [e]; rfl
              · have hin : inR n (M 216) 8 r = true := exK_iff.mpr ⟨p, by have := h.h8; omega, by rw [decide_eq_true hp, decide_eq_true e]; rfl⟩
                exfalso
                match r, hr with
                | 0, _ => rw [c0] at hin; cases hin
                | 1, _ => rw [c1] at hin; cases hin
                | 2, _ => rw [c2] at hin; cases hin
                | 3, _ => rw [c3] at hin; cases hin
                | 4, _ => rw [c4] at hin; cases hin
          · rw [cond_true, C_inRing h.tr T35 (by decide)]
        · rw [cond_true, cond_true, C_inRing h.tr T35 (by decide)]
      · rw [cond_true, cond_true, C_inRing h.tr T35 (by decide)]
    · rw [cond_true, cond_true, C_inRing h.tr T35 (by decide)]
  · rw [cond_true, cond_true, C_inRing h.tr T35 (by decide)]
end
