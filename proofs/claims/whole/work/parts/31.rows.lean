/-! contents by rows -/
def rs (M : mM) (q : Nat) (f : Nat → Int32) : mM := fun z => if z = q then f else M z
theorem mst_rs (M : mM) (o k : Nat) (v : Int32) : mst M o k v = rs M o (upd (M o) k v) := by
  funext z
  unfold mst rs
  by_cases h : z = o
  · subst h; simp only [if_true]
  · rw [if_neg h, if_neg h]
theorem rs_at (M : mM) (q : Nat) (f : Nat → Int32) : rs M q f q = f := if_pos rfl
theorem rs_ne {M : mM} {q z : Nat} {f : Nat → Int32} (h : z ≠ q) : rs M q f z = M z := if_neg h
theorem rs_self (M : mM) (q : Nat) : rs M q (M q) = M := by
  funext z
  unfold rs
  by_cases h : z = q
  · subst h; rw [if_pos rfl]
  · rw [if_neg h]
theorem rs_rs (M : mM) (q : Nat) (f g : Nat → Int32) : rs (rs M q f) q g = rs M q g := by
  funext z
  unfold rs
  by_cases h : z = q
  · rw [if_pos h, if_pos h]
  · rw [if_neg h, if_neg h, if_neg h]
theorem rs_st (M : mM) (q k : Nat) (f : Nat → Int32) (v : Int32) : mst (rs M q f) q k v = rs M q (upd f k v) := by rw [mst_rs, rs_rs, rs_at]
theorem mst_oo (M : mM) (o k : Nat) (v : Int32) : mst M o k v o k = v := by
  unfold mst
  rw [if_pos rfl]
  exact if_pos rfl
theorem mst_nk {M : mM} {o k j : Nat} {v : Int32} (h : j ≠ k) : mst M o k v o j = M o j := by
  unfold mst
  rw [if_pos rfl]
  exact if_neg h
theorem mst_no {M : mM} {o k z : Nat} {v : Int32} (h : z ≠ o) : mst M o k v z = M z := if_neg h
theorem upd_at (f : Nat → Int32) (k : Nat) (v : Int32) : upd f k v k = v := if_pos rfl
theorem upd_ne {f : Nat → Int32} {k j : Nat} {v : Int32} (h : j ≠ k) : upd f k v j = f j := if_neg h
theorem upd_self (f : Nat → Int32) (k : Nat) : upd f k (f k) = f := by
  funext j
  by_cases h : j = k
  · subst h; exact upd_at _ _ _
  · exact upd_ne h
theorem upd_upd (f : Nat → Int32) (k : Nat) (u v : Int32) : upd (upd f k u) k v = upd f k v := by
  funext j
  by_cases h : j = k
  · subst h; rw [upd_at, upd_at]
  · rw [upd_ne h, upd_ne h, upd_ne h]
/-- loops, from a start that is only equal -/
theorem wh_8e {σ ρ : Type} {b : σ → Option (ρ ⊕ σ)} {s0 : σ} (I : Nat → σ) (r : ρ) (h0 : s0 = I 0) (hs : ∀ k, k < 8 → b (I k) = some (.inr (I (k + 1)))) (he : b (I 8) = some (.inl r)) : wh 100000 b s0 = some r := by rw [h0]; exact wh_8 I r hs he
theorem wh_ne {σ ρ : Type} {b : σ → Option (ρ ⊕ σ)} {s0 : σ} (I : Nat → σ) (N : Nat) (r : ρ) (hN : N < 100000) (h0 : s0 = I 0) (hs : ∀ k, k < N → b (I k) = some (.inr (I (k + 1)))) (he : b (I N) = some (.inl r)) : wh 100000 b s0 = some r := by rw [h0]; exact wh_n I N r hN hs he
theorem gd_t {α : Type} {b : Bool} {k : Option α} (h : b = true) : gd b k = k := by rw [h]; rfl
theorem b1_s {α γ : Type} (a : α) (k : α → Option γ) : b1 (some a) k = k a := rfl
theorem b2_s {α γ : Type} (a : α) (M : mM) (k : α → mM → Option γ) : b2 (some (a, M)) k = k a M := rfl
theorem wr_e {α : Type} (M : mM) (k : mM → α) : wr M k = k M := rfl
theorem bif_t {α : Type} {c : Bool} {a b : α} (h : c = true) : (bif c then a else b) = a := by rw [h]; rfl
theorem bif_f {α : Type} {c : Bool} {a b : α} (h : c = false) : (bif c then a else b) = b := by rw [h]; rfl
theorem dn {p : Prop} [Decidable p] : decide (¬ p) = !decide p := by by_cases h : p <;> simp [h]
theorem i_1 (k : Nat) : nI k + (1 : Int32) = nI (k + 1) := nI_1 k
/-- the same is said of a set by both -/
theorem bitE (k : Nat) : ((1 : Int32) <<< (nI k &&& (31 : Int32))) = f_X11_bit (nI k) := rfl
theorem mhas_hs {s : Int32} {j : Nat} (h : j < 32) : f_X12_has s (nI j) = hs s j := by
  rw [← has_hs h]
  unfold f_X12_has f_X11_has
  have key : ((s >>> (nI j &&& (31 : Int32))) &&& (1 : Int32)) = 0 ∨ ((s >>> (nI j &&& (31 : Int32))) &&& (1 : Int32)) = 1 := by
    generalize (s >>> (nI j &&& (31 : Int32))) = t
    have : ∀ b : BitVec 32, b &&& 1#32 = 0#32 ∨ b &&& 1#32 = 1#32 := by
      intro b
      have h1 : b &&& 1#32 = bif b.getLsbD 0 then 1#32 else 0#32 := by
        apply BitVec.eq_of_getLsbD_eq
        intro i hi
        rw [BitVec.getLsbD_and, BitVec.getLsbD_one]
        by_cases h0 : i = 0
        · subst h0; cases b.getLsbD 0 <;> simp
        · cases b.getLsbD 0 <;> simp [h0, BitVec.getLsbD_one]
      rw [h1]
      cases b.getLsbD 0
      · exact Or.inl rfl
      · exact Or.inr rfl
    rcases this t.toBitVec with h | h
    · exact Or.inl (Int32.toBitVec.inj h)
    · exact Or.inr (Int32.toBitVec.inj h)
  rcases key with h | h
  · rw [h]; rfl
  · rw [h]; rfl
