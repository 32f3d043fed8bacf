/-! the world at the law's beginning -/
def isTw (o : Nat) : Bool := Nat.ble 35 o && Nat.blt o 215 && Nat.beq ((o - 35) % 12) 0
def mM0 (xs : Nat → Int32) (len : Nat) : mM := fun o k =>
  bif Nat.beq o 232 then xs k else bif Nat.beq o 233 then nI len else bif Nat.beq o 1 && Nat.beq k 3 then -1 else bif Nat.beq o 215 && Nat.beq k 18 then -1 else bif Nat.beq o 216 && (Nat.beq k 5 || Nat.beq k 7) then 1 else bif isTw o && (Nat.beq k 5 || Nat.beq k 6) then 1 else 0
section
variable {xs : Nat → Int32} {len : Nat}
theorem mM0_z {o k : Nat} (h2 : o ≠ 232) (h3 : o ≠ 233) (h1 : o ≠ 1) (h5 : o ≠ 215) (h6 : o ≠ 216) (ht : isTw o = false) : mM0 xs len o k = 0 := by
  have e : ∀ a b : Nat, a ≠ b → Nat.beq a b = false := fun a b h => by cases e : Nat.beq a b with | false => rfl | true => exact absurd (Nat.eq_of_beq_eq_true e) h
  unfold mM0
  rw [e _ _ h2, e _ _ h3, e _ _ h1, e _ _ h5, e _ _ h6, ht]
  rfl
theorem up0_ {W : Nat → Int32} : upS 0 W = 0 := (set_congr (d := fun _ => false) (c := fun p => decide (p < 0) && upB W p) fun p _ => by rw [decide_eq_false (Nat.not_lt_zero p), Bool.false_and]).trans (by decide)
theorem sl0_ {W : Nat → Int32} : slS 0 W = 0 := (set_congr (d := fun _ => false) (c := fun p => decide (p < 0) && slB W p) fun p _ => by rw [decide_eq_false (Nat.not_lt_zero p), Bool.false_and]).trans (by decide)
theorem z12_0 : Z12 (mM0 xs len) := fun t _ => mM0_z (by decide) (by decide) (by decide) (by decide) (by decide) rfl
theorem rl_0 : Rl 0 (mM0 xs len) := by
  have w6 : ∀ k, k ≠ 5 → k ≠ 7 → mM0 xs len 216 k = 0 := fun k h5 h7 => by
    have e : ∀ a b : Nat, a ≠ b → Nat.beq a b = false := fun a b h => by cases e : Nat.beq a b with | false => rfl | true => exact absurd (Nat.eq_of_beq_eq_true e) h
    show (bif Nat.beq k 5 || Nat.beq k 7 then (1 : Int32) else 0) = 0
    rw [e _ _ h5, e _ _ h7]
    rfl
  have r35 : ∀ o, 36 ≤ o → o ≤ 46 → ∀ k, mM0 xs len o k = 0 := fun o h1 h2 k => mM0_z (by omega) (by omega) (by omega) (by omega) (by omega) (by
    unfold isTw
    have : Nat.beq ((o - 35) % 12) 0 = false := by
      cases e : Nat.beq ((o - 35) % 12) 0 with
      | false => rfl
      | true => have := Nat.eq_of_beq_eq_true e; omega
    rw [this, Bool.and_false])
  refine ⟨⟨rfl, by decide, fun p hp => absurd hp (Nat.not_lt_zero p), fun p hp => absurd hp (Nat.not_lt_zero p), ⟨0, by decide, rfl⟩, ⟨0, by decide, rfl⟩, ⟨0, by decide, rfl⟩, ⟨1, by decide, rfl⟩⟩, st_up0 up0_, ⟨⟨rfl, up0_.symm, sl0_.symm, rfl, rfl, rfl, rfl, rfl, fun p hp => absurd hp (Nat.not_lt_zero p), fun p _ hp => ⟨r35 _ (by decide) (by decide) p, r35 _ (by decide) (by decide) p, r35 _ (by decide) (by decide) p⟩, ⟨0, 0, by decide, by decide, rfl, rfl, rfl, fun a ha => absurd ha (Nat.not_lt_zero a)⟩⟩, ?_, fun p hp => ?_⟩, Or.inl ⟨rfl, rfl⟩, ⟨0, by decide, rfl, rfl, rfl, fun i hi => absurd hi (Nat.not_lt_zero i)⟩, Or.inl ⟨rfl, rfl⟩, ⟨0, 0, by decide, by decide, rfl, rfl, rfl, fun j hj => absurd hj (Nat.not_lt_zero j)⟩⟩
  · show (0 : Int32) = tTrod (mM0 xs len) 35 8
    have : ∀ k, tTrod (mM0 xs len) 35 k = 0 := fun k => by
      induction k with
      | zero => rfl
      | succ k ih =>
        show tTrod (mM0 xs len) 35 k ||| mM0 xs len (35 + 6) k = 0
        rw [ih, r35 _ (by decide) (by decide)]
        rfl
    exact (this 8).symm
  · rw [rCar_off (Nat.zero_le p) hp]
    exact r35 _ (by decide) (by decide) p
/-- the law's run, from its loop's head in the first world -/
theorem lp_0 (hl : len ≤ 384) : Gd 13 (nI 0) (mM0 xs len) 64 := lp_all (len := len) (by omega) 64 0 0 (mM0 xs len) rl_0 z12_0 rfl (by omega) (by omega)
end
