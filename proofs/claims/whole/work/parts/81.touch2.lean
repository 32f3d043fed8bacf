/-! one step on, in the reference; how far a push goes; who is told -/
section
variable {n : Nat} {M : mM}
theorem m_touches {N : mM} {p q : Nat} (hp : p < 8) (hq : q < 8) : f_X12_touches (nI p) (nI q) N = some (tch (N 216) p q) := by
  unfold f_X12_touches tch
  rw [b1_a (show f_X12_of (nI p) (6 : Int32) N = some (pv (N 216) p 6) from m_of (c := 6) hp (by decide)), mhas_hs (by omega), b1_a (show f_X12_of (nI q) (6 : Int32) N = some (pv (N 216) q 6) from m_of (c := 6) hq (by decide)), mhas_hs (by omega)]
  cases hs (pv (N 216) p 6) q
  · cases hs (pv (N 216) q 6) p
    · rfl
    · rfl
  · rfl
theorem m_tc {N : mM} (hn : N 216 0 = nI n) (h8 : n ≤ 8) {s e : Int32} (hs8 : S8 s) (he : ∀ j, j < 8 → hs e j = true → j < n) : f_X12_touchedBy s e N = some (tcS n (N 216) e s) := by
  -- inner: from one
  have inner : ∀ k, k < n → ∀ a, S8 a → ∃ b, f_X12_touchedBy_l10 s e (nI k) a 0 N = some (.inr (b, nI (k + 1))) ∧ S8 b ∧ ∀ j, j < 8 → hs b j = (hs a j || (hs e j && (hs s k && tch (N 216) k j))) := by
    intro k hk a ha
    unfold f_X12_touchedBy_l10
    obtain ⟨r, e1, b, e2, e3⟩ := wh_P (b := fun t : Int32 × Int32 => f_X12_touchedBy_10 s e t.1 (nI k) t.2 N) (fun i (t : Int32 × Int32) => t.2 = nI i ∧ S8 t.1 ∧ ∀ j, j < 8 → hs t.1 j = (hs a j || (decide (j < i) && (hs e j && (hs s k && tch (N 216) k j))))) (fun r => ∃ b, r = .inr (b, nI (k + 1)) ∧ S8 b ∧ ∀ j, j < 8 → hs b j = (hs a j || (hs e j && (hs s k && tch (N 216) k j)))) n 100000 (a, (0 : Int32)) ⟨rfl, ha, fun j hj => by rw [decide_eq_false (Nat.not_lt_zero j), Bool.false_and, Bool.or_false]⟩ (fun i hi t ht => by
      obtain ⟨b, x⟩ := t
      obtain ⟨h1, h2, h3⟩ := ht
      dsimp only at h1 h2 h3
      subst h1
      show ∃ s', f_X12_touchedBy_10 s e b (nI k) (nI i) N = some (.inr s') ∧ _
      unfold f_X12_touchedBy_10
      rw [m_ppl hn, b1_s, bif_f (i_len hi h8), mhas_hs (by omega), mhas_hs (by omega), m_touches (by omega) (by omega), b1_s, b_or0, i_1, bitE]
      have no : (hs e i && (hs s k && tch (N 216) k i)) = false → ∀ j, j < 8 → hs b j = (hs a j || (decide (j < i + 1) && (hs e j && (hs s k && tch (N 216) k j)))) := fun hc j hj => by
        rw [h3 j hj]
        by_cases hji : j = i
        · subst hji; rw [hc, Bool.and_false, Bool.and_false]
        · by_cases hlt : j < i
          · rw [decide_eq_true hlt, decide_eq_true (show j < i + 1 by omega)]
          · rw [decide_eq_false hlt, decide_eq_false (show ¬ j < i + 1 by omega)]
      cases c1 : hs s k
      · rw [cond_false]
        exact ⟨_, rfl, rfl, h2, by rw [← c1]; exact no (by rw [c1, Bool.false_and, Bool.and_false])⟩
      · rw [cond_true]
        cases c2 : hs e i
        · rw [cond_false]
          exact ⟨_, rfl, rfl, h2, by rw [← c1]; exact no (by rw [c2, Bool.false_and])⟩
        · rw [cond_true]
          cases c3 : tch (N 216) k i
          · rw [cond_false]
            exact ⟨_, rfl, rfl, h2, by rw [← c1]; exact no (by rw [c3, Bool.and_false, Bool.and_false])⟩
          · rw [cond_true]
            refine ⟨_, rfl, rfl, S8.or h2 (S8.bit (by omega)), fun j hj => ?_⟩
            show hs (b ||| f_X11_bit (nI i)) j = _
            rw [hs_or, hs_bit (by omega) (by omega), h3 j hj]
            by_cases hji : j = i
            · subst hji
              rw [decide_eq_true rfl, decide_eq_true (show j < j + 1 by omega), c1, c2, c3, Bool.or_true]
              exact (Bool.or_true _).symm
            · rw [decide_eq_false (Ne.symm hji), Bool.or_false]
              by_cases hlt : j < i
              · rw [decide_eq_true hlt, decide_eq_true (show j < i + 1 by omega), c1]
              · rw [decide_eq_false hlt, decide_eq_false (show ¬ j < i + 1 by omega), c1]) (fun t ht => by
      obtain ⟨b, x⟩ := t
      obtain ⟨h1, h2, h3⟩ := ht
      dsimp only at h1 h2 h3
      subst h1
      show ∃ r, f_X12_touchedBy_10 s e b (nI k) (nI n) N = some (.inl r) ∧ _
      unfold f_X12_touchedBy_10
      rw [m_ppl hn, b1_s, bif_t (i_lee n), i_1]
      refine ⟨_, rfl, b, rfl, h2, fun j hj => ?_⟩
      rw [h3 j hj]
      by_cases hjn : j < n
      · rw [decide_eq_true hjn, Bool.true_and]
      · have : hs e j = false := by
          cases c : hs e j
          · rfl
          · exact absurd (he j hj c) hjn
        rw [decide_eq_false hjn, this, Bool.false_and, Bool.false_and]) (by omega)
    exact ⟨b, by rw [← e2]; exact e1, e3⟩
  unfold f_X12_touchedBy f_X12_touchedBy_l4
  obtain ⟨r, e1, e2, e3⟩ := wh_P (b := fun t : Int32 × Int32 => f_X12_touchedBy_4 s e t.1 t.2 N) (fun k (t : Int32 × Int32) => t.2 = nI k ∧ S8 t.1 ∧ ∀ j, j < 8 → hs t.1 j = (hs s j || (hs e j && exK (fun p => decide (p < n) && (hs s p && tch (N 216) p j)) k))) (fun r => S8 r ∧ ∀ j, j < 8 → hs r j = (hs s j || (hs e j && exK (fun p => decide (p < n) && (hs s p && tch (N 216) p j)) n))) n 100000 (s, (0 : Int32)) ⟨rfl, hs8, fun j hj => by show hs s j = (hs s j || (hs e j && false)); rw [Bool.and_false, Bool.or_false]⟩ (fun k hk t ht => by
    obtain ⟨a, x⟩ := t
    obtain ⟨h1, h2, h3⟩ := ht
    dsimp only at h1 h2 h3
    subst h1
    obtain ⟨b, g1, g2, g3⟩ := inner k hk a h2
    show ∃ s', f_X12_touchedBy_4 s e a (nI k) N = some (.inr s') ∧ _
    unfold f_X12_touchedBy_4
    rw [m_ppl hn, b1_s, bif_f (i_len hk h8), g1]
    refine ⟨_, rfl, rfl, g2, fun j hj => ?_⟩
    show hs b j = _
    rw [g3 j hj, h3 j hj, exK_s, decide_eq_true hk, Bool.true_and]
    generalize exK (fun p => decide (p < n) && (hs s p && tch (N 216) p j)) k = y
    cases hs s j <;> cases hs e j <;> cases y <;> cases (hs s k && tch (N 216) k j) <;> rfl) (fun t ht => by
    obtain ⟨a, x⟩ := t
    obtain ⟨h1, h2, h3⟩ := ht
    dsimp only at h1 h2 h3
    subst h1
    show ∃ r, f_X12_touchedBy_4 s e a (nI n) N = some (.inl r) ∧ _
    unfold f_X12_touchedBy_4
    rw [m_ppl hn, b1_s, bif_t (i_lee n)]
    exact ⟨_, rfl, h2, h3⟩) (by omega)
  refine e1.trans (congrArg some (S8.ext e2 (S8.set _) fun j hj => ?_))
  unfold tcS tcB
  rw [e3 j hj, hs_set8 hj, exK_n (n := n) (fun q h1 h2 => by rw [decide_eq_false (show ¬ q < n by omega), Bool.false_and]) 8 h8 (Nat.le_refl 8)]
end
