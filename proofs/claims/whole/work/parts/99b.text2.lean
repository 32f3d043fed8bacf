/-! texts: the reference's steps; signs and numbers by both -/
section
variable {L : Nat} {B : Nat → Nat}
theorem sg_lt {b lo : Nat} (hb : b < 256) (h1 : 0 < lo) (h2 : lo < 128) : decide (sgn8 b < nI lo) = !decide (lo ≤ b ∧ b < 128) := by
  by_cases h : b < 128
  · rw [sg_lo h, i_lt (by omega) (by omega)]
    by_cases c : lo ≤ b
    · rw [decide_eq_false (by omega), decide_eq_true ⟨c, h⟩]; rfl
    · rw [decide_eq_true (by omega), decide_eq_false (fun z => c z.1)]; rfl
  · rw [decide_eq_false (p := (lo ≤ b ∧ b < 128)) (fun z => h z.2), decide_eq_true (Int32.lt_of_lt_of_le (sg_hi hb (by omega)) (nI_pos' (by omega)))]
    rfl
theorem M_isAt (hT : txt L B) {Y : mM} {p : Nat} (h : tM Y L B p) (hp : p ≤ L) {lo hi : Nat} (h1 : 0 < lo) (h2 : lo < 128) (h3 : hi < 128) : f_X12_isAt (nI lo) (nI hi) Y = some (decide (p < L) && (decide (lo ≤ B p) && decide (B p ≤ hi))) := by
  have hL := hT.1
  unfold f_X12_isAt
  rw [h.1, h.2.2, i_ge (by omega) (by omega)]
  by_cases e : p < L
  · have hb := hT.2 p e
    rw [decide_eq_true e, Bool.not_true, cond_false, Bool.true_and, gd_t (i_in (by omega) (by decide)), i_ix (by omega), h.2.1 p e, sg_lt hb h1 h2, gd_t (i_in (by omega) (by decide))]
    by_cases c : B p < 128
    · rw [sg_lo c, i_lt (by omega) (by omega)]
      by_cases c1 : lo ≤ B p
      · rw [decide_eq_true ⟨c1, c⟩, decide_eq_true c1, Bool.not_true, cond_false, Bool.true_and]
        by_cases c2 : B p ≤ hi
        · rw [decide_eq_true c2, decide_eq_false (by omega), cond_false]
        · rw [decide_eq_false c2, decide_eq_true (by omega), cond_true]
      · rw [decide_eq_false (fun z => c1 z.1), decide_eq_false c1, Bool.not_false, cond_true, Bool.false_and]
    · rw [decide_eq_false (fun z => c z.2), Bool.not_false, cond_true, decide_eq_false (show ¬ B p ≤ hi by omega), Bool.and_false]
  · rw [decide_eq_false e, Bool.not_false, cond_true, Bool.false_and]
theorem mst_sf (M : mM) (o k : Nat) : mst M o k (M o k) = M := by
  rw [mst_rs, upd_self, rs_self]
theorem tM.pt {Y : mM} {p : Nat} (h : tM Y L B p) (q : Nat) : tM (mst Y 215 14 (nI q)) L B q := h.mv (fM.st (Or.inl rfl)) (mst_oo _ _ _ _)
theorem M_blanks (hT : txt L B) {Y : mM} {p : Nat} (h : tM Y L B p) (hp : p ≤ L) : ∃ Y', f_X12_blanks Y = some ((), Y') ∧ tM Y' L B (sB L B p) ∧ Y' 215 16 = nI (sB L B p) ∧ fM Y Y' := by
  have hL := hT.1
  have hs1 := sk_le (L := L) (c := cB B) p
  have hs2 := sk_L (L := L) (c := cB B) hp
  have key : ∀ q, q ≤ L → f_X12_isAt (32 : Int32) (32 : Int32) (mst Y 215 14 (nI q)) = some (decide (q < L) && cB B q) := fun q hq => by
    rw [show (32 : Int32) = nI 32 from rfl, M_isAt hT (h.pt q) hq (by decide) (by decide) (by decide)]
    unfold cB
    by_cases c : B q = 32
    · rw [c]; rfl
    · rw [decide_eq_false c]
      by_cases c1 : 32 ≤ B q
      · rw [decide_eq_false (show ¬ B q ≤ 32 by omega), Bool.and_false]
      · rw [decide_eq_false c1, Bool.false_and]
  refine ⟨mst (mst Y 215 14 (nI (sB L B p))) 215 16 (nI (sB L B p)), ?_, (h.pt _).mv (fM.st (Or.inr rfl)) ((mst_nk (by decide)).trans (mst_oo _ _ _ _)), mst_oo _ _ _ _, (fM.st (Or.inl rfl)).tr (fM.st (Or.inr rfl))⟩
  unfold f_X12_blanks f_X12_blanks_l0
  refine wh_ne (fun k => mst Y 215 14 (nI (p + k))) (sB L B p - p) _ (by unfold sB; omega) ?_ (fun k hk => ?_) ?_
  · show Y = mst Y 215 14 (nI p)
    rw [← h.2.2, mst_sf]
  · obtain ⟨b1, b2⟩ := sk_in (L := L) (c := cB B) (p := p) (i := p + k) (by omega) (by unfold sB at hk; omega)
    show f_X12_blanks_0 (mst Y 215 14 (nI (p + k))) = _
    unfold f_X12_blanks_0
    rw [key _ (by omega), b1_s, decide_eq_true b1, b2, Bool.true_and, cond_true, wr_e, mst_oo, i_1, mst_tw]
    rfl
  · show f_X12_blanks_0 (mst Y 215 14 (nI (p + (sB L B p - p)))) = _
    rw [show p + (sB L B p - p) = sB L B p by unfold sB; omega]
    have e0 : (decide (sB L B p < L) && cB B (sB L B p)) = false := by
      by_cases e : sB L B p < L
      · rw [show cB B (sB L B p) = false from sk_at (L := L) (c := cB B) e, Bool.and_false]
      · rw [decide_eq_false e, Bool.false_and]
    unfold f_X12_blanks_0
    rw [key (sB L B p) hs2, b1_s, e0, cond_false, wr_e, mst_oo]
/-- a row of letters -/
def wL (L : Nat) (B : Nat → Nat) (p : Nat) : Nat := sk L (cL B) (sB L B p)
theorem wL_le {p : Nat} (hp : p ≤ L) : sB L B p ≤ wL L B p ∧ wL L B p ≤ L := ⟨sk_le _, sk_L (sk_L hp)⟩
theorem M_letters (hT : txt L B) {Y : mM} {p : Nat} (h : tM Y L B p) (hp : p ≤ L) : ∃ Y', f_X12_letters Y = some ((), Y') ∧ tM Y' L B (wL L B p) ∧ Y' 215 16 = nI (sB L B p) ∧ fM Y Y' := by
  have hL := hT.1
  obtain ⟨Y1, a1, a2, a3, a4⟩ := M_blanks hT h hp
  have hq : sB L B p ≤ L := sk_L hp
  have hs1 : sB L B p ≤ wL L B p := sk_le (L := L) (c := cL B) (sB L B p)
  have hs2 : wL L B p ≤ L := sk_L (L := L) (c := cL B) hq
  have key : ∀ q, q ≤ L → f_X12_isAt (97 : Int32) (122 : Int32) (mst Y1 215 14 (nI q)) = some (decide (q < L) && cL B q) := fun q hq' => by
    rw [show (97 : Int32) = nI 97 from rfl, show (122 : Int32) = nI 122 from rfl, M_isAt hT (a2.pt q) hq' (by decide) (by decide) (by decide)]
    rfl
  refine ⟨mst Y1 215 14 (nI (wL L B p)), ?_, a2.pt _, (mst_nk (by decide)).trans a3, a4.tr (fM.st (Or.inl rfl))⟩
  unfold f_X12_letters f_X12_letters_l2
  rw [a1, b2_s]
  refine wh_ne (fun k => mst Y1 215 14 (nI (sB L B p + k))) (wL L B p - sB L B p) _ (by omega) ?_ (fun k hk => ?_) ?_
  · show Y1 = mst Y1 215 14 (nI (sB L B p))
    rw [← a2.2.2, mst_sf]
  · obtain ⟨b1, b2⟩ := sk_in (L := L) (c := cL B) (p := sB L B p) (i := sB L B p + k) (by omega) (by unfold wL at hk; omega)
    show f_X12_letters_2 (mst Y1 215 14 (nI (sB L B p + k))) = _
    unfold f_X12_letters_2
    rw [key _ (by omega), b1_s, decide_eq_true b1, b2, Bool.true_and, cond_true, wr_e, mst_oo, i_1, mst_tw]
    rfl
  · show f_X12_letters_2 (mst Y1 215 14 (nI (sB L B p + (wL L B p - sB L B p)))) = _
    rw [show sB L B p + (wL L B p - sB L B p) = wL L B p by omega]
    have e0 : (decide (wL L B p < L) && cL B (wL L B p)) = false := by
      by_cases e : wL L B p < L
      · rw [show cL B (wL L B p) = false from sk_at (L := L) (c := cL B) e, Bool.and_false]
      · rw [decide_eq_false e, Bool.false_and]
    unfold f_X12_letters_2
    rw [key _ hs2, b1_s, e0, cond_false]
theorem sg_eq {b c : Nat} (hb : b < 256) (hc : c < 128) : decide (sgn8 b = nI c) = decide (b = c) := by
  by_cases h : b < 128
  · rw [sg_lo h, i_eq (by omega) (by omega)]
  · rw [decide_eq_false (show ¬ b = c by omega)]
    refine decide_eq_false fun z => ?_
    have := sg_hi hb (show 128 ≤ b by omega)
    rw [z] at this
    exact nI_pos (by omega) this
theorem M_isWord (hT : txt L B) {Y : mM} {p o : Nat} (hp : p ≤ L) (h : tM Y L B (wL L B p)) (h16 : Y 215 16 = nI (sB L B p)) (ho : mTxB o = true) (hw : okT (mTt o) = true) : f_X12_isWord o Y = some (isW L B (sB L B p) (mTt o)) := by
  have hL := hT.1
  obtain ⟨q1, q2⟩ := wL_le (B := B) hp
  obtain ⟨l1, l2⟩ := okT_l hw
  have no : f_X12_isWord_l14 o 0 0 Y = some false := by
    unfold f_X12_isWord_l14
    refine wh_1 ?_
    show f_X12_isWord_14 o 0 0 Y = _
    unfold f_X12_isWord_14
    rfl
  have st : ∀ k, k < (mTt o).length → sB L B p + k < L → f_X12_isWord_14 o 1 (nI k) Y = bif decide (B (sB L B p + k) = (mTt o).getD k 0) then some (.inr (1, nI (k + 1))) else some (.inr (0, nI (k + 1))) := fun k hk hkL => by
    obtain ⟨c1, c2⟩ := okT_k hw k hk
    unfold f_X12_isWord_14
    rw [show decide ((1 : Int32) = 0) = false from rfl, cond_false, i_ge (by omega) (by omega), decide_eq_true hk, Bool.not_true, cond_false, h16, nI_add, gd_t (i_in (by omega) (by decide)), gd_t (i_in hk (by omega)), i_ix (by omega), i_ix (by omega), h.2.1 _ hkL, dn, sg_eq (hT.2 _ hkL) (by omega), i_1]
    cases decide (B (sB L B p + k) = (mTt o).getD k 0)
    · rw [Bool.not_false, cond_true, cond_false]
    · rw [Bool.not_true, cond_false, cond_true]
  have last : ∀ k, k ≤ (mTt o).length → f_X12_isWord_14 o 0 (nI k) Y = some (.inl false) := fun k _ => by
    unfold f_X12_isWord_14
    rfl
  unfold f_X12_isWord isW
  rw [gd_t ho, h.2.2, h16, pk_sub q1, dn, i_eq (by omega) (by omega)]
  by_cases e : sk L (cL B) (sB L B p) = sB L B p + (mTt o).length
  · have e2 : wL L B p - sB L B p = (mTt o).length := by unfold wL; omega
    have e3 : wL L B p = sB L B p + (mTt o).length := e
    rw [decide_eq_true e2, Bool.not_true, cond_false, decide_eq_true e, Bool.true_and]
    unfold f_X12_isWord_l14
    cases c : alK (fun k => decide (B (sB L B p + k) = (mTt o).getD k 0)) (mTt o).length
    · obtain ⟨k, k1, k2, k3⟩ := alK_first c
      refine wh_ne (fun j => if j ≤ k then (1, nI j) else (0, nI (k + 1))) (k + 1) _ (by omega) (by rw [if_pos (Nat.zero_le k)]; rfl) (fun j hj => ?_) ?_
      · rw [if_pos (by omega)]
        show f_X12_isWord_14 o 1 (nI j) Y = _
        rw [st j (by omega) (by omega)]
        by_cases hjk : j = k
        · subst hjk
          rw [if_neg (by omega), k3, cond_false]
        · rw [if_pos (by omega)]
          have := alK_iff.mp k2 j (by omega)
          rw [this, cond_true]
      · rw [if_neg (by omega)]
        exact last (k + 1) (by omega)
    · refine wh_ne (fun j => (1, nI j)) (mTt o).length _ (by omega) rfl (fun j hj => ?_) ?_
      · show f_X12_isWord_14 o 1 (nI j) Y = _
        have := alK_iff.mp c j hj
        rw [st j hj (by omega), this, cond_true]
      · show f_X12_isWord_14 o 1 (nI (mTt o).length) Y = _
        unfold f_X12_isWord_14
        rw [show decide ((1 : Int32) = 0) = false from rfl, cond_false, i_lee, cond_true]
        rfl
  · have e2 : ¬ wL L B p - sB L B p = (mTt o).length := fun z => e (by unfold wL at z q1; omega)
    rw [decide_eq_false e2, Bool.not_false, cond_true, no, decide_eq_false e, Bool.false_and]
/-- a sign -/
def sgB (L : Nat) (B : Nat → Nat) (a c : Nat) : Bool := decide (a < L) && decide (B a = c)
theorem C_tsign (hT : txt L B) {X : mM} {a c : Nat} (h : tC X L B a) (ha : a ≤ L) (hc : c < 128) : (sgB L B a c = true → a + 1 ≤ L ∧ ∃ X', f_X7_takesSign (nI c) X = some (true, X') ∧ tC X' L B (sB L B (a + 1)) ∧ fC X X') ∧ (sgB L B a c = false → f_X7_takesSign (nI c) X = some (false, X)) := by
  have hL := hT.1
  have e0 : f_X7_byteAt (X 1 2) X = some (if a < L then nI (B a) else -1) := by
    rw [h.2.2.1]
    exact C_by hT h (by omega)
  have e1 : decide ((if a < L then nI (B a) else (-1 : Int32)) = nI c) = sgB L B a c := by
    unfold sgB
    by_cases e : a < L
    · have := hT.2 a e
      rw [if_pos e, decide_eq_true e, Bool.true_and, i_eq (by omega) (by omega)]
    · rw [if_neg e, decide_eq_false e, Bool.false_and]
      exact decide_eq_false fun z => nI_pos (show c < 2 ^ 31 by omega) (by rw [← z]; decide)
  constructor
  · intro hs1
    have hlt : a < L := by
      unfold sgB at hs1
      rw [Bool.and_eq_true] at hs1
      exact of_decide_eq_true hs1.1
    obtain ⟨X', m1, m2, m3⟩ := C_move hT h (p := a + 1) hlt
    refine ⟨hlt, X', ?_, m2, m3⟩
    unfold f_X7_takesSign
    rw [e0, b1_s, e1, hs1, cond_true, h.2.2.1, i_1, m1, b2_s]
  · intro hs1
    unfold f_X7_takesSign
    rw [e0, b1_s, e1, hs1, cond_false]
theorem M_sign (hT : txt L B) {Y : mM} {p c : Nat} (h : tM Y L B p) (hp : p ≤ L) (h0 : 0 < c) (hc : c < 128) : ∃ Y', f_X12_sign (nI c) Y = some (sgB L B (sB L B p) c, Y') ∧ tM Y' L B (if sgB L B (sB L B p) c then sB L B p + 1 else sB L B p) ∧ Y' 215 16 = nI (sB L B p) ∧ fM Y Y' := by
  obtain ⟨Y1, a1, a2, a3, a4⟩ := M_blanks hT h hp
  have hq : sB L B p ≤ L := sk_L hp
  have e1 : (decide (sB L B p < L) && (decide (c ≤ B (sB L B p)) && decide (B (sB L B p) ≤ c))) = sgB L B (sB L B p) c := by
    unfold sgB
    by_cases e : B (sB L B p) = c
    · rw [decide_eq_true e, decide_eq_true (show c ≤ B (sB L B p) by omega), decide_eq_true (show B (sB L B p) ≤ c by omega)]
      rfl
    · rw [decide_eq_false e]
      by_cases c1 : c ≤ B (sB L B p)
      · rw [decide_eq_false (show ¬ B (sB L B p) ≤ c by omega), Bool.and_false]
      · rw [decide_eq_false c1, Bool.false_and]
  unfold f_X12_sign
  rw [a1, b2_s, M_isAt hT a2 hq h0 hc hc, b1_s, e1]
  cases sgB L B (sB L B p) c
  · rw [cond_false, if_neg (by decide)]
    exact ⟨Y1, rfl, a2, a3, a4⟩
  · rw [cond_true, if_pos rfl, wr_e, a2.2.2, i_1]
    exact ⟨_, rfl, a2.pt _, (mst_nk (by decide)).trans a3, a4.tr (fM.st (Or.inl rfl))⟩
/-- numbers: how many digits, and their value -/
def nD (L : Nat) (B : Nat → Nat) (a : Nat) : Nat := sk L (cD B) a - a
def dv (B : Nat → Nat) (a : Nat) : Nat → Nat
  | 0 => 0
  | k + 1 => dv B a k * 10 + (B (a + k) - 48)
def nOk (L : Nat) (B : Nat → Nat) (a : Nat) (lo hi : Int32) : Bool := decide (1 ≤ nD L B a) && (decide (nD L B a ≤ 3) && (!decide (nI (dv B a (nD L B a)) < lo) && decide (nI (dv B a (nD L B a)) ≤ hi)))
theorem nD_in {a k : Nat} (h : k < nD L B a) : a + k < L ∧ 48 ≤ B (a + k) ∧ B (a + k) ≤ 57 := by
  obtain ⟨b1, b2⟩ := sk_in (L := L) (c := cD B) (p := a) (i := a + k) (by omega) (by unfold nD at h; omega)
  unfold cD at b2
  rw [Bool.and_eq_true] at b2
  exact ⟨b1, of_decide_eq_true b2.1, of_decide_eq_true b2.2⟩
theorem nD_e (a : Nat) : a + nD L B a = sk L (cD B) a := by
  have := sk_le (L := L) (c := cD B) a
  unfold nD
  omega
theorem nD_at {a : Nat} (h : a + nD L B a < L) : ¬ (48 ≤ B (a + nD L B a) ∧ B (a + nD L B a) ≤ 57) := fun ⟨h1, h2⟩ => by
  rw [nD_e] at h h1 h2
  have t : cD B (sk L (cD B) a) = true := by
    show (decide (48 ≤ B (sk L (cD B) a)) && decide (B (sk L (cD B) a) ≤ 57)) = true
    rw [decide_eq_true h1, decide_eq_true h2]
    rfl
  rw [sk_at h] at t
  cases t
theorem nD_L {a : Nat} (ha : a ≤ L) : a + nD L B a ≤ L := by rw [nD_e]; exact sk_L ha
theorem dv_le {a : Nat} : ∀ k, k ≤ nD L B a → dv B a k < 10 ^ k := by
  intro k
  induction k with
  | zero => intro _; exact Nat.lt_succ_self 0
  | succ k ih =>
    intro hk
    have h1 := ih (by omega)
    obtain ⟨-, h2, h3⟩ := nD_in (L := L) (B := B) (a := a) (k := k) (by omega)
    show dv B a k * 10 + (B (a + k) - 48) < 10 ^ (k + 1)
    rw [Nat.pow_succ]
    omega
theorem dg_neg {b : Nat} (hb : b < 256) : decide (nI b - (48 : Int32) < 0) = decide (b < 48) := (by decide +kernel : ∀ b, b < 256 → decide (nI b - (48 : Int32) < 0) = decide (b < 48)) b hb
theorem dg_nine {b : Nat} (hb : b < 256) : decide (nI b - (48 : Int32) ≤ (9 : Int32)) = decide (b ≤ 57) := (by decide +kernel : ∀ b, b < 256 → decide (nI b - (48 : Int32) ≤ (9 : Int32)) = decide (b ≤ 57)) b hb
theorem C_number (hT : txt L B) {X : mM} {a : Nat} (h : tC X L B a) (ha : a ≤ L) {lo hi : Int32} : (nOk L B a lo hi = true → ∃ X', f_X7_number lo hi X = some (nI (dv B a (nD L B a)), X') ∧ tC X' L B (sB L B (a + nD L B a)) ∧ fC X X') ∧ (nOk L B a lo hi = false → ∃ X', f_X7_number lo hi X = some (-1, X') ∧ X' 1 3 = nI a ∧ fC X X') := by
  have hL := hT.1
  have h12 := h.2.2.1
  have hnL := nD_L (B := B) ha
  have bad : f_X7_number_54 X = some (-1, mst X 1 3 (nI a)) := by
    unfold f_X7_number_54
    rw [h12, C_wrong h.2.2.2, b2_s]
  obtain ⟨m, hm⟩ : ∃ m, m = min (nD L B a) 4 := ⟨_, rfl⟩
  have st : ∀ k, k < m → f_X7_number_8 lo hi (nI (a + k)) (nI (dv B a k)) (nI (a + k)) X = some (.inr (nI (a + (k + 1)), nI (dv B a (k + 1)), nI (a + (k + 1)))) := fun k hk => by
    obtain ⟨b1, b2, b3⟩ := nD_in (L := L) (B := B) (a := a) (k := k) (by omega)
    have hd := dv_le (L := L) (B := B) (a := a) k (by omega)
    have h10 : 10 ^ k ≤ 10 ^ 4 := Nat.pow_le_pow_right (by decide) (by omega)
    have hb := hT.2 _ b1
    unfold f_X7_number_8
    rw [h12, show nI a + (3 : Int32) = nI (a + 3) from nI_add a 3, i_lt (by omega) (by omega), decide_eq_false (by omega), cond_false, C_by hT h (by omega), b1_s, if_pos b1, dg_neg hb, decide_eq_false (by omega), cond_false, dg_nine hb, decide_eq_true b3, cond_true, i_1, show nI (B (a + k)) - (48 : Int32) = nI (B (a + k) - 48) from pk_sub (b := 48) b2, show nI (dv B a k) * (10 : Int32) = nI (dv B a k * 10) from pk_mul _ 10, nI_add]
    rfl
  have end8 : f_X7_number_8 lo hi (nI (a + m)) (nI (dv B a m)) (nI (a + m)) X = b1 (f_X7_number_38 lo hi (nI (a + m)) (nI (dv B a m)) X) (fun r => some (.inl r)) := by
    unfold f_X7_number_8
    rw [h12, show nI a + (3 : Int32) = nI (a + 3) from nI_add a 3, i_lt (by omega) (by omega)]
    by_cases h4 : 4 ≤ nD L B a
    · rw [show m = 4 by omega, decide_eq_true (show a + 3 < a + 4 by omega), cond_true]
    · have hmn : m = nD L B a := by omega
      rw [hmn, decide_eq_false (by omega), cond_false, C_by hT h (by omega), b1_s]
      by_cases e : a + nD L B a < L
      · have hb := hT.2 _ e
        have hn := nD_at e
        rw [if_pos e, dg_neg hb, dg_nine hb]
        by_cases c : B (a + nD L B a) < 48
        · rw [decide_eq_true c, cond_true]
        · rw [decide_eq_false c, cond_false, decide_eq_false (by omega), cond_false]
      · rw [if_neg e]
        rfl
  have run : ∀ r, f_X7_number_38 lo hi (nI (a + m)) (nI (dv B a m)) X = some r → f_X7_number lo hi X = some r := fun r hr => by
    unfold f_X7_number f_X7_number_l8
    rw [h12]
    refine wh_ne (fun k => (nI (a + k), nI (dv B a k), nI (a + k))) m _ (by omega) rfl (fun k hk => st k hk) ?_
    show f_X7_number_8 lo hi (nI (a + m)) (nI (dv B a m)) (nI (a + m)) X = _
    rw [end8, hr, b1_s]
  have e38 : f_X7_number_38 lo hi (nI (a + m)) (nI (dv B a m)) X = bif nOk L B a lo hi then b2 (f_X7_moveTo (nI (a + m)) X) (fun v6 M6 => some (nI (dv B a m), M6)) else some (-1, mst X 1 3 (nI a)) := by
    unfold f_X7_number_38 nOk
    rw [h12, i_eq (by omega) (by omega), show nI a + (3 : Int32) = nI (a + 3) from nI_add a 3, i_lt (by omega) (by omega), bad]
    by_cases c0 : nD L B a = 0
    · rw [decide_eq_true (show a + m = a by omega), cond_true, decide_eq_false (by omega), Bool.false_and, cond_false]
    · rw [decide_eq_false (show ¬ a + m = a by omega), cond_false, decide_eq_true (show 1 ≤ nD L B a by omega), Bool.true_and]
      by_cases c3 : nD L B a ≤ 3
      · rw [show m = nD L B a by omega, decide_eq_false (by omega), cond_false, decide_eq_true c3, Bool.true_and]
        cases decide (nI (dv B a (nD L B a)) < lo)
        · rw [cond_false, Bool.not_false, Bool.true_and]
        · rw [cond_true, Bool.not_true, Bool.false_and, cond_false]
      · rw [decide_eq_true (show a + 3 < a + m by omega), cond_true, decide_eq_false c3, Bool.false_and, cond_false]
  constructor
  · intro hok
    rw [hok, cond_true] at e38
    have h3 : nD L B a ≤ 3 := by
      unfold nOk at hok
      rw [Bool.and_eq_true, Bool.and_eq_true] at hok
      exact of_decide_eq_true hok.2.1
    rw [show m = nD L B a by omega] at e38 run
    obtain ⟨X', m1, m2, m3⟩ := C_move hT h hnL
    rw [m1, b2_s] at e38
    exact ⟨X', run _ e38, m2, m3⟩
  · intro hok
    rw [hok, cond_false] at e38
    exact ⟨_, run _ e38, mst_oo _ _ _ _, fC.st (by decide)⟩
theorem M_number (hT : txt L B) {Y : mM} {p : Nat} (h : tM Y L B p) (hp : p ≤ L) {lo hi : Int32} : ∃ Y', f_X12_number lo hi Y = some (bif nOk L B (sB L B p) lo hi then nI (dv B (sB L B p) (nD L B (sB L B p))) else -1, Y') ∧ tM Y' L B (sB L B p + nD L B (sB L B p)) ∧ Y' 215 16 = nI (sB L B p) ∧ fM Y Y' := by
  have hL := hT.1
  obtain ⟨Y1, a1, a2, a3, a4⟩ := M_blanks hT h hp
  have hq : sB L B p ≤ L := sk_L hp
  generalize hA : sB L B p = a at a2 a3 hq ⊢
  have hnL := nD_L (B := B) hq
  have key : ∀ q, q ≤ L → f_X12_isAt (48 : Int32) (57 : Int32) (mst Y1 215 14 (nI q)) = some (decide (q < L) && cD B q) := fun q hq' => by
    rw [show (48 : Int32) = nI 48 from rfl, show (57 : Int32) = nI 57 from rfl, M_isAt hT (a2.pt q) hq' (by decide) (by decide) (by decide)]
    rfl
  refine ⟨mst Y1 215 14 (nI (a + nD L B a)), ?_, a2.pt _, (mst_nk (by decide)).trans a3, a4.tr (fM.st (Or.inl rfl))⟩
  unfold f_X12_number f_X12_number_l4
  rw [a1, b2_s]
  refine wh_ne (fun k => (nI (dv B a (min k 3)), mst Y1 215 14 (nI (a + k)))) (nD L B a) _ (by omega) ?_ (fun k hk => ?_) ?_
  · show ((0 : Int32), Y1) = (nI (dv B a 0), mst Y1 215 14 (nI a))
    rw [← a2.2.2, mst_sf]
    rfl
  · obtain ⟨b1, b2, b3⟩ := nD_in (L := L) (B := B) (a := a) (k := k) hk
    have hd := dv_le (L := L) (B := B) (a := a) (min k 3) (by omega)
    have h10 : 10 ^ (min k 3) ≤ 10 ^ 3 := Nat.pow_le_pow_right (by decide) (by omega)
    have e1 : (decide (a + k < L) && cD B (a + k)) = true := by
      unfold cD
      rw [decide_eq_true b1, decide_eq_true b2, decide_eq_true b3]
      rfl
    show f_X12_number_4 lo hi (nI (dv B a (min k 3))) (mst Y1 215 14 (nI (a + k))) = _
    unfold f_X12_number_4 f_X12_number_29
    rw [key _ (by omega), b1_s, e1, cond_true, mst_oo, mst_nk (show 16 ≠ 14 by decide), a3, pk_sub (by omega), show a + k - a = k by omega, show decide ((3 : Int32) ≤ nI k) = decide (3 ≤ k) from i_le (a := 3) (by decide) (by omega), wr_e, wr_e, i_1, mst_tw]
    by_cases h3 : 3 ≤ k
    · rw [decide_eq_true h3, cond_true, show min (k + 1) 3 = min k 3 by omega]
      rfl
    · rw [decide_eq_false h3, cond_false, gd_t (i_in (by omega) (by decide)), i_ix (by omega), mst_no (show 223 ≠ 215 by decide), a2.2.1 _ b1, sg_lo (by omega), show min k 3 = k by omega, show min (k + 1) 3 = k + 1 by omega, show (10 : Int32) * nI (dv B a k) = nI (10 * dv B a k) from pk_mul 10 _, nI_add, show nI (10 * dv B a k + B (a + k)) - (48 : Int32) = nI (10 * dv B a k + B (a + k) - 48) from pk_sub (b := 48) (by omega), show 10 * dv B a k + B (a + k) - 48 = dv B a (k + 1) by show _ = dv B a k * 10 + (B (a + k) - 48); omega]
      rfl
  · have e0 : (decide (a + nD L B a < L) && cD B (a + nD L B a)) = false := by
      by_cases e : a + nD L B a < L
      · rw [nD_e] at e ⊢
        rw [sk_at e, Bool.and_false]
      · rw [decide_eq_false e, Bool.false_and]
    show f_X12_number_4 lo hi (nI (dv B a (min (nD L B a) 3))) (mst Y1 215 14 (nI (a + nD L B a))) = _
    unfold f_X12_number_4 nOk
    rw [key _ hnL, b1_s, e0, cond_false, mst_oo, mst_nk (show 16 ≠ 14 by decide), a3, i_eq (by omega) (by omega), pk_sub (by omega), show a + nD L B a - a = nD L B a by omega, show decide ((3 : Int32) < nI (nD L B a)) = decide (3 < nD L B a) from i_lt (a := 3) (by decide) (by omega)]
    by_cases c0 : nD L B a = 0
    · rw [decide_eq_true (show a + nD L B a = a by omega), cond_true, decide_eq_false (by omega), Bool.false_and, cond_false]
    · rw [decide_eq_false (show ¬ a + nD L B a = a by omega), cond_false, decide_eq_true (show 1 ≤ nD L B a by omega), Bool.true_and]
      by_cases c3 : nD L B a ≤ 3
      · rw [decide_eq_false (by omega), cond_false, decide_eq_true c3, Bool.true_and, show min (nD L B a) 3 = nD L B a by omega]
        cases decide (nI (dv B a (nD L B a)) < lo)
        · rw [cond_false, Bool.not_false, Bool.true_and]
          cases decide (nI (dv B a (nD L B a)) ≤ hi) <;> rfl
        · rw [cond_true, Bool.not_true, Bool.false_and, cond_false]
      · rw [decide_eq_true (show 3 < nD L B a by omega), cond_true, decide_eq_false c3, Bool.false_and, cond_false]
end
