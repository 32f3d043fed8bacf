/-! pushes, tell -/
section
variable {n : Nat} {M : mM}
def rcS (n : Nat) (W : Nat → Int32) (e s : Int32) : Nat → Int32
  | 0 => s
  | k + 1 => tcS n W e (rcS n W e s k)
theorem rcS_s (W : Nat → Int32) (e s : Int32) (k : Nat) : rcS n W e s (k + 1) = tcS n W e (rcS n W e s k) := rfl
theorem rcS_8 {W : Nat → Int32} {e s : Int32} (h : S8 s) : ∀ k, S8 (rcS n W e s k) := by
  intro k
  cases k with
  | zero => exact h
  | succ k => exact S8.set _
theorem rcS_in {W : Nat → Int32} {e s : Int32} (h : ∀ j, j < 8 → hs s j = true → hs e j = true) : ∀ k j, j < 8 → hs (rcS n W e s k) j = true → hs e j = true := by
  intro k
  induction k with
  | zero => exact h
  | succ k ih =>
    intro j hj hh
    rw [rcS_s] at hh
    unfold tcS tcB at hh
    rw [hs_set8 hj, Bool.or_eq_true] at hh
    rcases hh with a | a
    · exact ih j hj a
    · rw [Bool.and_eq_true] at a
      exact a.1
theorem ho_in {W : Nat → Int32} : ∀ j, j < 8 → hs (hoS n W) j = true → j < n := fun j hj e => by
  rw [hs_hos hj, Bool.and_eq_true] at e
  exact of_decide_eq_true e.1
/-- where one begins -/
def s0S (n : Nat) (W : Nat → Int32) (p : Nat) : Int32 := f_X11_bit (nI p) &&& hoS n W
theorem s0_in {W : Nat → Int32} {p : Nat} : ∀ j, j < 8 → hs (s0S n W p) j = true → hs (hoS n W) j = true := fun j _ e => by
  unfold s0S at e
  rw [hs_and, Bool.and_eq_true] at e
  exact e.2
def stC (n : Nat) (W : Nat → Int32) (p : Nat) (g : Int32) (k : Nat) : Bool := !decide (rcS n W (hoS n W) (s0S n W p) k = 0) && wi g (rcS n W (hoS n W) (s0S n W p) k)
theorem C_steps (h : Rl n M) {p : Nat} (hp : p < 8) {g : Int32} : (∀ j, j < 8 → stC n (M 216) p g j = true → (∀ i, i < j → stC n (M 216) p g i = false) → f_X8_steps 35 (nI p) g M = some (nI j)) ∧ ((∀ i, i < 8 → stC n (M 216) p g i = false) → f_X8_steps 35 (nI p) g M = some (-1)) := by
  have h8 := h.h8
  have s8 : S8 (s0S n (M 216) p) := S8.andr (S8.set _)
  have st : ∀ k, k < 8 → stC n (M 216) p g k = false → f_X8_steps_10 35 g (hoS n (M 216)) (rcS n (M 216) (hoS n (M 216)) (s0S n (M 216) p) k) (nI k) M = some (.inr (rcS n (M 216) (hoS n (M 216)) (s0S n (M 216) p) (k + 1), nI (k + 1))) := fun k hk hc => by
    obtain ⟨v, g1, g2⟩ := C_tc h (rcS_8 (n := n) (W := M 216) (e := hoS n (M 216)) s8 k) ho_in
    unfold stC at hc
    unfold f_X8_steps_10 f_X8_steps_21
    rw [bif_f (i_8 hk), g1, b1_s, g2, rcS_s, i_1, within_iff]
    change (bif decide (rcS n (M 216) (hoS n (M 216)) (s0S n (M 216) p) k = 0) then _ else bif wi g (rcS n (M 216) (hoS n (M 216)) (s0S n (M 216) p) k) then _ else _) = _
    cases c1 : decide (rcS n (M 216) (hoS n (M 216)) (s0S n (M 216) p) k = 0)
    · rw [c1, Bool.not_false, Bool.true_and] at hc
      rw [hc, cond_false, cond_false]
    · rw [cond_true]
  unfold f_X8_steps f_X8_steps_l10
  rw [gd_t T35, h.ho, b1_s]
  constructor
  · intro j hj hc hb
    refine wh_ne (fun k => (rcS n (M 216) (hoS n (M 216)) (s0S n (M 216) p) k, nI k)) j _ (by omega) rfl (fun k hk => st k (by omega) (hb k hk)) ?_
    show f_X8_steps_10 35 g (hoS n (M 216)) (rcS n (M 216) (hoS n (M 216)) (s0S n (M 216) p) j) (nI j) M = _
    unfold f_X8_steps_10
    unfold stC at hc
    rw [Bool.and_eq_true] at hc
    rw [bif_f (i_8 hj), within_iff]
    change (bif decide (rcS n (M 216) (hoS n (M 216)) (s0S n (M 216) p) j = 0) then _ else bif wi g (rcS n (M 216) (hoS n (M 216)) (s0S n (M 216) p) j) then _ else _) = _
    cases c1 : decide (rcS n (M 216) (hoS n (M 216)) (s0S n (M 216) p) j = 0)
    · rw [hc.2, cond_false, cond_true]
    · rw [c1] at hc; cases hc.1
  · intro hb
    refine wh_ne (fun k => (rcS n (M 216) (hoS n (M 216)) (s0S n (M 216) p) k, nI k)) 8 _ (by decide) rfl (fun k hk => st k hk (hb k hk)) ?_
    show f_X8_steps_10 35 g (hoS n (M 216)) (rcS n (M 216) (hoS n (M 216)) (s0S n (M 216) p) 8) (nI 8) M = _
    unfold f_X8_steps_10
    rw [bif_t i_88]
end
