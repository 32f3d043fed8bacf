theorem mQ1_all (y : Nat) : mQ1 (mT y) := sorry
theorem mQ2_all (y : Nat) : mQ2 (mT y) := sorry
theorem mQ3_all : ∀ y, 10 ≤ y → y < 373 → mQ3 y := sorry
