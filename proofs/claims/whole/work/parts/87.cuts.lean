/-! cuts: how many pairs are parted -/
def bN (b : Bool) : Nat := bif b then 1 else 0
theorem sN_cg {f g : Nat → Nat} : ∀ {k : Nat}, (∀ p, p < k → f p = g p) → sN f k = sN g k := by
  intro k
  induction k with
  | zero => intro _; rfl
  | succ k ih => intro h; rw [sN_s, sN_s, ih fun p hp => h p (by omega), h k (by omega)]
theorem sN_0 {f : Nat → Nat} {k : Nat} (h : ∀ p, p < k → f p = 0) : sN f k = 0 := by
  rw [sN_cg (g := fun _ => 0) h]
  clear h
  induction k with
  | zero => rfl
  | succ k ih => rw [sN_s, ih]
theorem cnt_sN (S : Int32) : ∀ k, cntK S k = sN (fun j => bN (hs S j)) k := by
  intro k
  induction k with
  | zero => rfl
  | succ k ih => rw [cntK_s, sN_s, ih]; rfl
def dS (f : Nat → Nat → Nat) (m : Nat) : Nat := sN (fun k => sN (fun j => if j = k then 0 else f k j) m) m
def uS (f : Nat → Nat → Nat) (m : Nat) : Nat := sN (fun k => sN (fun j => if k < j then f k j else 0) m) m
theorem dS_u {f : Nat → Nat → Nat} (hf : ∀ k j, k < 8 → j < 8 → f k j = f j k) : ∀ m, m ≤ 8 → dS f m = 2 * uS f m := by
  intro m
  induction m with
  | zero => intro _; rfl
  | succ m ih =>
    intro hm
    have i := ih (by omega)
    unfold dS uS at i ⊢
    rw [sN_s (fun k => sN (fun j => if j = k then 0 else f k j) (m + 1)) m, sN_s (fun k => sN (fun j => if k < j then f k j else 0) (m + 1)) m]
    have d1 : sN (fun k => sN (fun j => if j = k then 0 else f k j) (m + 1)) m = sN (fun k => sN (fun j => if j = k then 0 else f k j) m) m + sN (fun k => f k m) m := by
      rw [← sN_add]
      exact sN_cg fun k hk => by rw [sN_s, if_neg (by omega)]
    have d2 : sN (fun j => if j = m then 0 else f m j) (m + 1) = sN (fun k => f k m) m := by
      rw [sN_s, if_pos rfl, Nat.add_zero]
      exact sN_cg fun k hk => by rw [if_neg (by omega)]; exact hf m k (by omega) (by omega)
    have u1 : sN (fun k => sN (fun j => if k < j then f k j else 0) (m + 1)) m = sN (fun k => sN (fun j => if k < j then f k j else 0) m) m + sN (fun k => f k m) m := by
      rw [← sN_add]
      exact sN_cg fun k hk => by rw [sN_s, if_pos hk]
    have u2 : sN (fun j => if m < j then f m j else 0) (m + 1) = 0 := sN_0 fun j hj => if_neg (by omega)
    rw [d1, d2, u1, u2, i]
    omega
theorem mask_k : ∀ k, k < 8 → ∀ j, j < 8 → hs ((f_X11_bit (nI (k + 1)) - 1) ^^^ (-1 : Int32)) j = decide (k < j) := by decide +kernel
section
variable {n : Nat} {M : mM}
theorem C_reached (h : Rl n M) {k : Nat} {e : Int32} (h8e : S8 e) (he : ∀ j, j < 8 → hs e j = true → j < n) : f_X8_reached 35 (nI k) e M = some (rcS n (M 216) e (f_X11_bit (nI k) &&& e) 8) := by
  have s8 : S8 (f_X11_bit (nI k) &&& e) := S8.andr h8e
  unfold f_X8_reached f_X8_reached_l7
  rw [gd_t T35]
  refine wh_8e (fun i => (rcS n (M 216) e (f_X11_bit (nI k) &&& e) i, nI i)) _ rfl (fun i hi => ?_) ?_
  · obtain ⟨v, g1, g2⟩ := C_tc h (rcS_8 (n := n) (W := M 216) (e := e) s8 i) he
    show f_X8_reached_7 35 e (rcS n (M 216) e (f_X11_bit (nI k) &&& e) i) (nI i) M = _
    unfold f_X8_reached_7
    rw [bif_f (i_8 hi), g1, b1_s, g2, i_1, rcS_s]
  · show f_X8_reached_7 35 e (rcS n (M 216) e (f_X11_bit (nI k) &&& e) 8) (nI 8) M = _
    unfold f_X8_reached_7
    rw [bif_t i_88]
theorem m_reached {N : mM} (hn : N 216 0 = nI n) (h8 : n ≤ 8) {k : Nat} {e : Int32} (h8e : S8 e) (he : ∀ j, j < 8 → hs e j = true → j < n) : f_X12_reachedFrom (nI k) e N = some (rcS n (N 216) e (f_X11_bit (nI k) &&& e) 8) := by
  have s8 : S8 (f_X11_bit (nI k) &&& e) := S8.andr h8e
  unfold f_X12_reachedFrom f_X12_reachedFrom_l8
  refine wh_8e (fun i => (rcS n (N 216) e (f_X11_bit (nI k) &&& e) i, nI i)) _ rfl (fun i hi => ?_) ?_
  · show f_X12_reachedFrom_8 e (rcS n (N 216) e (f_X11_bit (nI k) &&& e) i) (nI i) N = _
    unfold f_X12_reachedFrom_8
    rw [bif_f (i_8 hi), m_tc hn h8 (rcS_8 s8 i) he, b1_s, i_1, rcS_s]
  · show f_X12_reachedFrom_8 e (rcS n (N 216) e (f_X11_bit (nI k) &&& e) 8) (nI 8) N = _
    unfold f_X12_reachedFrom_8
    rw [bif_t i_88]
/-- reached among e, p left out -/
def cuA (n : Nat) (W : Nat → Int32) (p : Nat) (e : Int32) (k j : Nat) : Nat := bN (!decide (k = p) && (!decide (j = p) && rch n W e 8 k j))
theorem m_pairs {N : mM} (hn : N 216 0 = nI n) (h8 : n ≤ 8) {p : Nat} (hp : p < 8) {e : Int32} (h8e : S8 e) (he : ∀ j, j < 8 → hs e j = true → j < n) : f_X12_pairsAmong e (nI p) N = some (nI (dS (cuA n (N 216) p e) 8) / 2) := by
  have hne : decide (¬ nI p = (-1 : Int32)) = true := decide_eq_true fun z => nI_pos (show p < 2 ^ 31 by omega) (by rw [z]; decide)
  have e8 : dS (cuA n (N 216) p e) 8 = sN (fun k => sN (fun j => if j = k then 0 else cuA n (N 216) p e k j) 8) n := by
    unfold dS
    obtain ⟨y, hy⟩ : ∃ y, 8 = n + y := ⟨8 - n, by omega⟩
    have key : ∀ y, n + y ≤ 8 → sN (fun k => sN (fun j => if j = k then 0 else cuA n (N 216) p e k j) 8) (n + y) = sN (fun k => sN (fun j => if j = k then 0 else cuA n (N 216) p e k j) 8) n := by
      intro y
      induction y with
      | zero => intro _; rfl
      | succ y ih =>
        intro hy
        rw [← Nat.add_assoc, sN_s, ih (by omega), sN_0 (k := 8) fun j hj => ?_, Nat.add_zero]
        by_cases hjk : j = n + y
        · rw [if_pos hjk]
        · rw [if_neg hjk]
          unfold cuA
          cases c : rch n (N 216) e 8 (n + y) j
          · rw [Bool.and_false, Bool.and_false]; rfl
          · have := he (n + y) (by omega) (rch_k (by omega) hj c)
            omega
    have := key y (by omega)
    rw [← hy] at this
    exact this
  rw [e8]
  unfold f_X12_pairsAmong f_X12_pairsAmong_l4
  refine wh_ne (fun k => (nI (sN (fun k => sN (fun j => if j = k then 0 else cuA n (N 216) p e k j) 8) k), nI k)) n _ (by omega) rfl (fun k hk => ?_) ?_
  · show f_X12_pairsAmong_4 e (nI p) (nI (sN (fun k => sN (fun j => if j = k then 0 else cuA n (N 216) p e k j) 8) k)) (nI k) N = some (.inr (nI (sN (fun k => sN (fun j => if j = k then 0 else cuA n (N 216) p e k j) 8) (k + 1)), nI (k + 1)))
    rw [sN_s]
    generalize sN (fun k => sN (fun j => if j = k then 0 else cuA n (N 216) p e k j) 8) k = z
    unfold f_X12_pairsAmong_4 f_X12_pairsAmong_34
    rw [m_ppl hn, b1_s, bif_f (i_len hk h8), i_eq (by omega) (by omega), mhas_hs (by omega), m_reached hn h8 h8e he, b1_s, hne, cond_true, i_1]
    have zero : (∀ j, j < 8 → cuA n (N 216) p e k j = 0) → z + sN (fun j => if j = k then 0 else cuA n (N 216) p e k j) 8 = z := fun hz => by
      rw [sN_0 fun j hj => ?_, Nat.add_zero]
      by_cases hjk : j = k
      · rw [if_pos hjk]
      · rw [if_neg hjk, hz j hj]
    by_cases hkp : k = p
    · rw [decide_eq_true hkp, cond_true, zero fun j _ => by unfold cuA; rw [decide_eq_true hkp]; rfl]
    · rw [decide_eq_false hkp, cond_false]
      cases hek : hs e k
      · rw [cond_false, zero fun j hj => by
          unfold cuA
          cases c : rch n (N 216) e 8 k j
          · rw [Bool.and_false, Bool.and_false]; rfl
          · rw [rch_k (by omega) hj c] at hek; cases hek]
      · have s8 : S8 (rcS n (N 216) e (f_X11_bit (nI k) &&& e) 8) := rcS_8 (S8.andr h8e) 8
        rw [cond_true, bitE, bitE]
        rw [show f_J6_bitCount_0f7a4 ((rcS n (N 216) e (f_X11_bit (nI k) &&& e) 8 &&& (f_X11_bit (nI k) ^^^ (-1 : Int32))) &&& (f_X11_bit (nI p) ^^^ (-1 : Int32))) = nI (cntK ((rcS n (N 216) e (f_X11_bit (nI k) &&& e) 8 &&& (f_X11_bit (nI k) ^^^ (-1 : Int32))) &&& (f_X11_bit (nI p) ^^^ (-1 : Int32))) 8) from bc_cnt (S8.andl (S8.andl s8)), nI_add, cnt_sN]
        refine congrArg (fun y => some (Sum.inr (nI (z + y), nI (k + 1)))) (sN_cg fun j hj => ?_)
        rw [hs_and, hs_and, hs_nn (by omega), hs_nn (by omega), hs_bit (by omega) (by omega), hs_bit (by omega) (by omega)]
        unfold cuA
        rw [decide_eq_false hkp]
        show bN ((rch n (N 216) e 8 k j && !decide (k = j)) && !decide (p = j)) = _
        by_cases hjk : j = k
        · rw [if_pos hjk, decide_eq_true hjk.symm, Bool.not_true, Bool.and_false, Bool.false_and]; rfl
        · rw [if_neg hjk, decide_eq_false (Ne.symm hjk), Bool.not_false, Bool.and_true, Bool.true_and]
          by_cases hjp : j = p
          · rw [decide_eq_true hjp, decide_eq_true hjp.symm, Bool.not_true, Bool.and_false, Bool.false_and]
          · rw [decide_eq_false hjp, decide_eq_false (Ne.symm hjp), Bool.not_false, Bool.and_true, Bool.true_and]
  · show f_X12_pairsAmong_4 e (nI p) _ (nI n) N = _
    unfold f_X12_pairsAmong_4
    rw [m_ppl hn, b1_s, bif_t (i_lee n)]
end
