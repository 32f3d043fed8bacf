/-! who touches whom -/
section
variable {n : Nat} {M : mM}
def tch (W : Nat → Int32) (p q : Nat) : Bool := hs (pv W p 6) q || hs (pv W q 6) p
theorem tch_c (W : Nat → Int32) (p q : Nat) : tch W p q = tch W q p := Bool.or_comm _ _
def tcB (n : Nat) (W : Nat → Int32) (e s : Int32) (j : Nat) : Bool := hs s j || (hs e j && exK (fun p => decide (p < n) && (hs s p && tch W p j)) 8)
def tcS (n : Nat) (W : Nat → Int32) (e s : Int32) : Int32 := setOf (tcB n W e s)
theorem and_ex {a b : Int32} (ha : S8 a) : decide (a &&& b = 0) = !exK (fun p => hs a p && hs b p) 8 := by
  have e : a &&& b = setOf (fun p => hs a p && hs b p) := S8.ext (S8.andl ha) (S8.set _) fun j hj => by rw [hs_and, hs_set8 hj]
  rw [e, exK_0]
theorem C_touched (h : Rl n M) {s : Int32} : ∃ v, f_X8_touched 35 s M = some v ∧ S8 v ∧ ∀ j, j < 8 → hs v j = (exK (fun p => hs s p && hs (M 41 p) j) 8 || exK (fun p => hs (M 41 j) p && hs s p) 8) := by
  have h8 := h.h8
  have hS : ∀ p, p < 8 → S8 (M 41 p) := fun p hp => by
    by_cases hpn : p < n
    · rw [show M 41 p = pv (M 216) p 6 from (h.tr.pp hpn).2.2.2.2.1]
      exact (h.wf.2.2.1 p hpn).2.2.1
    · rw [show M 41 p = 0 from (h.tr.p0 (by omega) hp).2.2]
      exact S8.zero
  unfold f_X8_touched f_X8_touched_l4
  rw [gd_t T35]
  refine wh_P (fun k (t : Int32 × Int32) => t.2 = nI k ∧ S8 t.1 ∧ ∀ j, j < 8 → hs t.1 j = (exK (fun p => hs s p && hs (M 41 p) j) k || (decide (j < k) && exK (fun p => hs (M 41 j) p && hs s p) 8))) (fun v => S8 v ∧ ∀ j, j < 8 → hs v j = (exK (fun p => hs s p && hs (M 41 p) j) 8 || exK (fun p => hs (M 41 j) p && hs s p) 8)) 8 _ _ ⟨rfl, S8.zero, fun j hj => by rw [decide_eq_false (Nat.not_lt_zero j)]; exact hs_0 j⟩ (fun k hk t ht => ?_) (fun t ht => ?_) (by decide)
  · obtain ⟨a, i⟩ := t
    obtain ⟨h1, h2, h3⟩ := ht
    dsimp only at h1 h2 h3
    subst h1
    show ∃ s', f_X8_touched_4 35 s a (nI k) M = some (.inr s') ∧ _
    have fin : ∀ b : Int32, S8 b → (∀ j, j < 8 → hs b j = (hs a j || (hs s k && hs (M 41 k) j))) → ∃ s' : Int32 × Int32, f_X8_touched_18 35 s b (nI k) M = some (.inr s') ∧ s'.2 = nI (k + 1) ∧ S8 s'.1 ∧ ∀ j, j < 8 → hs s'.1 j = (exK (fun p => hs s p && hs (M 41 p) j) (k + 1) || (decide (j < k + 1) && exK (fun p => hs (M 41 j) p && hs s p) 8)) := fun b hb hbj => by
      unfold f_X8_touched_18
      rw [gd_t (i_in hk i_28), i_ix (by omega), show M (35 + 6) k = M 41 k from rfl, and_ex (hS k hk), i_1]
      have key : ∀ j, j < 8 → ∀ x : Bool, (x = (hs a j || (hs s k && hs (M 41 k) j) || (decide (j = k) && exK (fun p => hs (M 41 k) p && hs s p) 8))) → x = (exK (fun p => hs s p && hs (M 41 p) j) (k + 1) || (decide (j < k + 1) && exK (fun p => hs (M 41 j) p && hs s p) 8)) := fun j hj x hx => by
        rw [hx, h3 j hj, exK_s (fun p => hs s p && hs (M 41 p) j) k]
        generalize exK (fun p => hs s p && hs (M 41 p) j) k = y
        by_cases hjk : j = k
        · subst hjk
          rw [decide_eq_false (Nat.lt_irrefl j), decide_eq_true rfl, decide_eq_true (show j < j + 1 by omega), Bool.false_and, Bool.or_false]
        · rw [decide_eq_false hjk, Bool.false_and, Bool.or_false]
          by_cases hlt : j < k
          · rw [decide_eq_true hlt, decide_eq_true (show j < k + 1 by omega), Bool.true_and, Bool.or_assoc, Bool.or_assoc, Bool.or_comm (exK (fun p => hs (M 41 j) p && hs s p) 8)]
          · rw [decide_eq_false hlt, decide_eq_false (show ¬ j < k + 1 by omega), Bool.false_and, Bool.or_false, Bool.or_false]
      cases hx : exK (fun p => hs (M 41 k) p && hs s p) 8
      · rw [Bool.not_false, cond_true]
        refine ⟨_, rfl, rfl, hb, fun j hj => key j hj _ ?_⟩
        rw [hx, Bool.and_false, Bool.or_false]
        exact hbj j hj
      · rw [Bool.not_true, cond_false]
        refine ⟨_, rfl, rfl, S8.or hb (S8.bit hk), fun j hj => key j hj _ ?_⟩
        rw [hx, Bool.and_true, hs_or, hs_bit (by omega) (by omega), hbj j hj]
        by_cases e : k = j
        · rw [decide_eq_true e, decide_eq_true e.symm]
        · rw [decide_eq_false e, decide_eq_false (Ne.symm e)]
    unfold f_X8_touched_4
    rw [bif_f (i_8 hk), has_hs (by omega), gd_t (i_in hk i_28), i_ix (by omega)]
    cases hb : hs s k
    · rw [cond_false]
      exact fin a h2 fun j hj => by rw [hb, Bool.false_and, Bool.or_false]
    · rw [cond_true]
      exact fin _ (S8.or h2 (hS k hk)) fun j hj => by rw [hb, Bool.true_and, hs_or]
  · obtain ⟨a, i⟩ := t
    obtain ⟨h1, h2, h3⟩ := ht
    dsimp only at h1 h2 h3
    subst h1
    show ∃ r, f_X8_touched_4 35 s a (nI 8) M = some (.inl r) ∧ _
    unfold f_X8_touched_4
    rw [bif_t i_88]
    exact ⟨_, rfl, h2, fun j hj => by rw [h3 j hj, decide_eq_true hj, Bool.true_and]⟩
/-- one step on, in the class -/
theorem C_tc (h : Rl n M) {s e : Int32} (hs8 : S8 s) (he : ∀ j, j < 8 → hs e j = true → j < n) : ∃ v, f_X8_touched 35 s M = some v ∧ s ||| (v &&& e) = tcS n (M 216) e s := by
  have h8 := h.h8
  obtain ⟨v, h1, h2, h3⟩ := C_touched h (s := s)
  refine ⟨v, h1, S8.ext (S8.or hs8 (S8.andl h2)) (S8.set _) fun j hj => ?_⟩
  unfold tcS tcB
  rw [hs_or, hs_and, hs_set8 hj, h3 j hj]
  cases ee : hs e j
  · rw [Bool.and_false, Bool.false_and]
  · have hjn := he j hj ee
    rw [Bool.and_true, Bool.true_and]
    congr 1
    have e41 : ∀ p, p < n → M 41 p = pv (M 216) p 6 := fun p hp => (h.tr.pp hp).2.2.2.2.1
    refine bool_iff ?_
    rw [Bool.or_eq_true, exK_iff, exK_iff, exK_iff]
    constructor
    · rintro (⟨p, hp, hq⟩ | ⟨p, hp, hq⟩)
      · rw [Bool.and_eq_true] at hq
        by_cases hpn : p < n
        · refine ⟨p, hp, ?_⟩
          rw [decide_eq_true hpn, hq.1]
          unfold tch
          rw [← e41 p hpn, hq.2]
          rfl
        · rw [show M 41 p = 0 from (h.tr.p0 (by omega) hp).2.2, hs_0] at hq
          cases hq.2
      · rw [Bool.and_eq_true, e41 j hjn] at hq
        obtain ⟨a, -, -⟩ := (h.wf.2.2.1 j hjn).2.2.2.2 p hp hq.1
        refine ⟨p, hp, ?_⟩
        rw [decide_eq_true a, hq.2]
        unfold tch
        rw [hq.1, Bool.or_true]
        rfl
    · rintro ⟨p, hp, hq⟩
      rw [Bool.and_eq_true, Bool.and_eq_true] at hq
      have hpn := of_decide_eq_true hq.1
      have ht := hq.2.2
      unfold tch at ht
      rw [Bool.or_eq_true] at ht
      rcases ht with ht | ht
      · exact Or.inl ⟨p, hp, by rw [hq.2.1, e41 p hpn, ht]; rfl⟩
      · exact Or.inr ⟨p, hp, by rw [hq.2.1, e41 j hjn, ht]; rfl⟩
end
