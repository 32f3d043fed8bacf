/-! who is reached: paths among some, both ways -/
section
variable {n : Nat} {W : Nat → Int32}
/-- j is reached from k within m steps among e -/
def rch (n : Nat) (W : Nat → Int32) (e : Int32) (m k j : Nat) : Bool := hs (rcS n W e (f_X11_bit (nI k) &&& e) m) j
theorem rch_0 {e : Int32} {k j : Nat} (hk : k < 8) (hj : j < 8) : rch n W e 0 k j = (decide (k = j) && hs e j) := by
  unfold rch
  show hs (f_X11_bit (nI k) &&& e) j = _
  rw [hs_and, hs_bit (by omega) (by omega)]
theorem rch_s {e : Int32} {m k j : Nat} (hj : j < 8) : rch n W e (m + 1) k j = true ↔ rch n W e m k j = true ∨ (hs e j = true ∧ ∃ i, i < 8 ∧ i < n ∧ rch n W e m k i = true ∧ tch W i j = true) := by
  unfold rch
  rw [rcS_s]
  unfold tcS tcB
  rw [hs_set8 hj, Bool.or_eq_true, Bool.and_eq_true, exK_iff]
  constructor
  · rintro (h | ⟨h1, i, hi, h2⟩)
    · exact Or.inl h
    · rw [Bool.and_eq_true, Bool.and_eq_true] at h2
      exact Or.inr ⟨h1, i, hi, of_decide_eq_true h2.1, h2.2.1, h2.2.2⟩
  · rintro (h | ⟨h1, i, hi, h2, h3, h4⟩)
    · exact Or.inl h
    · exact Or.inr ⟨h1, i, hi, by rw [decide_eq_true h2, h3, h4]; rfl⟩
theorem rch_in {e : Int32} {m k j : Nat} (hj : j < 8) (h : rch n W e m k j = true) : hs e j = true := rcS_in (fun j _ z => by rw [hs_and, Bool.and_eq_true] at z; exact z.2) m j hj h
theorem rch_k {e : Int32} {m k j : Nat} (hk : k < 8) (hj : j < 8) (h : rch n W e m k j = true) : hs e k = true := by
  induction m generalizing j with
  | zero =>
    rw [rch_0 hk hj, Bool.and_eq_true] at h
    rw [of_decide_eq_true h.1]
    exact h.2
  | succ m ih =>
    rcases (rch_s hj).mp h with h | ⟨-, i, hi, -, h2, -⟩
    · exact ih hj h
    · exact ih hi h2
/-- a step more at the beginning instead -/
theorem rch_l {e : Int32} (he : ∀ j, j < 8 → hs e j = true → j < n) {m : Nat} : ∀ {k j : Nat}, k < 8 → j < 8 → (rch n W e (m + 1) k j = true ↔ rch n W e m k j = true ∨ (hs e k = true ∧ ∃ i, i < 8 ∧ hs e i = true ∧ tch W k i = true ∧ rch n W e m i j = true)) := by
  induction m with
  | zero =>
    intro k j hk hj
    rw [rch_s hj]
    constructor
    · rintro (h | ⟨h1, i, hi, -, h2, h3⟩)
      · exact Or.inl h
      · rw [rch_0 hk hi, Bool.and_eq_true] at h2
        have ek := of_decide_eq_true h2.1
        subst ek
        exact Or.inr ⟨h2.2, j, hj, h1, h3, by rw [rch_0 hj hj, decide_eq_true rfl, h1]; rfl⟩
    · rintro (h | ⟨h1, i, hi, h2, h3, h4⟩)
      · exact Or.inl h
      · rw [rch_0 hi hj, Bool.and_eq_true] at h4
        have ei := of_decide_eq_true h4.1
        subst ei
        exact Or.inr ⟨h2, k, hk, he k hk h1, by rw [rch_0 hk hk, decide_eq_true rfl, h1]; rfl, h3⟩
  | succ m ih =>
    intro k j hk hj
    constructor
    · intro h
      rcases (rch_s hj).mp h with h | ⟨h1, i, hi, hin, h2, h3⟩
      · exact Or.inl h
      · rcases (ih hk hi).mp h2 with h4 | ⟨h5, i', hi', h6, h7, h8⟩
        · exact Or.inl ((rch_s hj).mpr (Or.inr ⟨h1, i, hi, hin, h4, h3⟩))
        · exact Or.inr ⟨h5, i', hi', h6, h7, (rch_s hj).mpr (Or.inr ⟨h1, i, hi, hin, h8, h3⟩)⟩
    · rintro (h | ⟨h1, i, hi, h2, h3, h4⟩)
      · exact (rch_s hj).mpr (Or.inl h)
      · rcases (rch_s hj).mp h4 with h5 | ⟨h6, i', hi', hin', h7, h8⟩
        · exact (rch_s hj).mpr (Or.inl ((ih hk hj).mpr (Or.inr ⟨h1, i, hi, h2, h3, h5⟩)))
        · exact (rch_s hj).mpr (Or.inr ⟨h6, i', hi', hin', (ih hk hi').mpr (Or.inr ⟨h1, i, hi, h2, h3, h7⟩), h8⟩)
theorem rch_sym {e : Int32} (he : ∀ j, j < 8 → hs e j = true → j < n) {m : Nat} : ∀ {k j : Nat}, k < 8 → j < 8 → rch n W e m k j = rch n W e m j k := by
  induction m with
  | zero =>
    intro k j hk hj
    rw [rch_0 hk hj, rch_0 hj hk]
    by_cases h : k = j
    · subst h; rfl
    · rw [decide_eq_false h, decide_eq_false (Ne.symm h)]; rfl
  | succ m ih =>
    intro k j hk hj
    refine bool_iff ?_
    rw [rch_s hj, rch_l he hj hk]
    constructor
    · rintro (h | ⟨h1, i, hi, hin, h2, h3⟩)
      · exact Or.inl (by rw [← ih hk hj]; exact h)
      · exact Or.inr ⟨h1, i, hi, rch_in hi h2, by rw [tch_c]; exact h3, by rw [← ih hk hi]; exact h2⟩
    · rintro (h | ⟨h1, i, hi, h2, h3, h4⟩)
      · exact Or.inl (by rw [ih hk hj]; exact h)
      · exact Or.inr ⟨h1, i, hi, he i hi h2, by rw [ih hk hi]; exact h4, by rw [tch_c]; exact h3⟩
theorem rch_mono {e e' : Int32} (hee : ∀ j, j < 8 → hs e' j = true → hs e j = true) {m : Nat} : ∀ {k j : Nat}, k < 8 → j < 8 → rch n W e' m k j = true → rch n W e m k j = true := by
  induction m with
  | zero =>
    intro k j hk hj h
    rw [rch_0 hk hj, Bool.and_eq_true] at h ⊢
    exact ⟨h.1, hee j hj h.2⟩
  | succ m ih =>
    intro k j hk hj h
    rcases (rch_s hj).mp h with h | ⟨h1, i, hi, hin, h2, h3⟩
    · exact (rch_s hj).mpr (Or.inl (ih hk hj h))
    · exact (rch_s hj).mpr (Or.inr ⟨hee j hj h1, i, hi, hin, ih hk hi h2, h3⟩)
end
