/-! the law: lines and sums, by both -/
section
variable {n : Nat} {W : Nat → Int32}
def lnS (n : Nat) (W : Nat → Int32) (p s : Nat) : Nat → List Int32
  | 0 => []
  | k + 1 => stp (factV n W (W (473 + 2 * (s + k))) (W (474 + 2 * (s + k))) p) (W (473 + 2 * (s + k))) (lnS n W p s k)
def lnV (n : Nat) (W : Nat → Int32) (p s e : Nat) : Bool := match lnS n W p s (e - s) with
  | [] => true
  | v :: _ => decide (v = 1)
theorem fact01 (hw : WF n W) {p : Nat} (hp : p < n) {c a : Int32} : ∀ x, 7 ≤ x → x ≤ 9 → c = nI x → factV n W c a p = 0 ∨ factV n W c a p = 1 := by
  intro x h1 h2 e
  subst e
  unfold factV
  match x, h1, h2 with
  | 7, _, _ =>
    show pv W p 3 = 0 ∨ pv W p 3 = 1
    exact hw.sl01 hp
  | 8, _, _ =>
    show (bif upB W p then (0 : Int32) else 1) = 0 ∨ (bif upB W p then (0 : Int32) else 1) = 1
    cases upB W p
    · exact Or.inr rfl
    · exact Or.inl rfl
  | 9, _, _ =>
    show (bif topB n W p then (1 : Int32) else 0) = 0 ∨ (bif topB n W p then (1 : Int32) else 0) = 1
    cases topB n W p
    · exact Or.inl rfl
    · exact Or.inr rfl
/-- what is known of a line's steps -/
def LnT (W : Nat → Int32) (R : Nat → Int32) (s e : Nat) (T : Nat → List Bool) : Prop := s ≤ e ∧ e ≤ 400 ∧ T s = [] ∧ ∀ j, s ≤ j → j < e → CR (R j) (W (473 + 2 * j)) (W (474 + 2 * j)) ∧ (T j).length ≤ 60 ∧ (j + 1 < e → tyS (W (473 + 2 * j)) (T j) (T (j + 1))) ∧ (j + 1 = e → tyS (W (473 + 2 * j)) (T j) [true])
theorem LnT.ty (hw : WF n W) {p : Nat} (hp : p < n) {R : Nat → Int32} {s e : Nat} {T : Nat → List Bool} (h : LnT W R s e T) : ∀ k, s + k < e → tyO (T (s + k)) (lnS n W p s k) := by
  intro k
  induction k with
  | zero =>
    intro _
    rw [Nat.add_zero, h.2.2.1]
    trivial
  | succ k ih =>
    intro hk
    obtain ⟨q1, q2, q3, q4⟩ := h.2.2.2 (s + k) (by omega) (by omega)
    exact tyO_s q1 (q3 (by omega)) (ih (by omega)) (fact01 hw hp)
theorem LnT.end (hw : WF n W) {p : Nat} (hp : p < n) {R : Nat → Int32} {s e : Nat} {T : Nat → List Bool} (h : LnT W R s e T) : lnS n W p s (e - s) = [] ∧ s = e ∨ ∃ v, lnS n W p s (e - s) = [v] ∧ (v = 0 ∨ v = 1) ∧ s < e := by
  by_cases hse : s = e
  · refine Or.inl ⟨?_, hse⟩
    rw [show e - s = 0 by omega]
    rfl
  · have h1 := h.1
    obtain ⟨k, hk⟩ : ∃ k, e - s = k + 1 := ⟨e - s - 1, by omega⟩
    obtain ⟨q1, q2, q3, q4⟩ := h.2.2.2 (s + k) (by omega) (by omega)
    have := tyO_s q1 (q4 (by omega)) (h.ty hw hp k (by omega)) (fact01 hw hp (a := W (474 + 2 * (s + k))))
    obtain ⟨v, S', e1, e2, e3⟩ := tyO_1 this
    have e4 : S' = [] := by
      cases S' with
      | nil => rfl
      | cons a b => exact e3.elim
    subst e4
    exact Or.inr ⟨v, by rw [hk]; exact e1, e2 rfl, by omega⟩
theorem i_l1 {k : Nat} (h : k + 1 < 2 ^ 31) : decide (nI (k + 1) < (1 : Int32)) = false := by
  rw [show (1 : Int32) = nI 1 from rfl, i_lt h (by decide)]
  exact decide_eq_false (by omega)
theorem i_l2 {k : Nat} (h : k + 2 < 2 ^ 31) : decide (nI (k + 2) < (2 : Int32)) = false := by
  rw [show (2 : Int32) = nI 2 from rfl, i_lt h (by decide)]
  exact decide_eq_false (by omega)
theorem i_64 {k : Nat} (h : k ≤ 64) : decide ((64 : Int32) < nI k) = false := by
  rw [show (64 : Int32) = nI 64 from rfl, i_lt (by decide) (by omega)]
  exact decide_eq_false (by omega)
theorem and01 {x y : Int32} (hx : x = 0 ∨ x = 1) (hy : y = 0 ∨ y = 1) : x &&& y = op2 15 x y := by
  rcases hx with rfl | rfl <;> rcases hy with rfl | rfl <;> decide
theorem or01 {x y : Int32} (hx : x = 0 ∨ x = 1) (hy : y = 0 ∨ y = 1) : x ||| y = op2 16 x y := by
  rcases hx with rfl | rfl <;> rcases hy with rfl | rfl <;> decide
theorem op_12 {x y : Int32} : (bif decide (y ≤ x) then some (0 : Int32) else some (1 : Int32)) = some (op2 12 x y) := by
  have : op2 12 x y = mB (decide (x < y)) := rfl
  rw [this]
  by_cases h : y ≤ x
  · rw [decide_eq_true h, decide_eq_false (Int32.not_lt.mpr h)]; rfl
  · rw [decide_eq_false h, decide_eq_true (Int32.not_le.mp h)]; rfl
theorem op_13 {x y : Int32} : (bif decide (x ≤ y) then some (0 : Int32) else some (1 : Int32)) = some (op2 13 x y) := by
  have : op2 13 x y = mB (decide (y < x)) := rfl
  rw [this]
  by_cases h : x ≤ y
  · rw [decide_eq_true h, decide_eq_false (Int32.not_lt.mpr h)]; rfl
  · rw [decide_eq_false h, decide_eq_true (Int32.not_le.mp h)]; rfl
theorem of2_12 {x y : Int32} : f_X0_ofTwo 1014 x y = some (op2 12 x y) := by
  rw [← op_12]
  unfold f_X0_ofTwo
  rw [show swN 1014 1011 4 = 3 from rfl]
  rfl
theorem of2_13 {x y : Int32} : f_X0_ofTwo 1015 x y = some (op2 13 x y) := by
  rw [← op_13]
  unfold f_X0_ofTwo
  rw [show swN 1015 1011 4 = 4 from rfl]
  rfl
/-- a step, by the class -/
theorem C_step (hw : WF n W) {M M' : mM} {lo tw p e j : Nat} {S : List Int32} {T T' : List Bool} (ht : TS n W M' tw) (hl : mLwB lo = true) (hT : mTwB tw = true) (hp : p < n) (hj : j < e) (he : e ≤ 400) (hcr : CR (M' (lo + 4) j) (W (473 + 2 * j)) (W (474 + 2 * j))) (hty : tyS (W (473 + 2 * j)) T T') (hO : tyO T S) (hln : T.length ≤ 60) (hS : stk (M' (lo + 5)) S) :
    ∃ S' M2, f_X0_holdsFor_6 lo tw (nI p) (nI e) (nI S.length) (nI j) M' = some (.inr (nI S'.length, nI (j + 1), M2)) ∧ S' = stp (factV n W (W (473 + 2 * j)) (W (474 + 2 * j)) p) (W (473 + 2 * j)) S ∧ stk (M2 (lo + 5)) S' ∧ ∀ z, z ≠ lo + 5 → M2 z = M' z := by
  have hlen := tyO_len hO
  have hsl : S.length ≤ 60 := by omega
  have e1 : decide (nI e ≤ nI j) = false := i_lit (by omega) hj
  have e2 : decide ((400 : Int32) ≤ nI j) = false := i_lit (a := 400) (by decide) (by omega)
  have h0 : f_X0_holdsFor_6 lo tw (nI p) (nI e) (nI S.length) (nI j) M' = (bif decide ((M' (lo + 4) j) < (1011 : Int32)) then (bif decide (¬ (M' (lo + 4) j) = (1010 : Int32)) then (bif decide (nI S.length < 0) then (some (.inr (nI S.length, (nI (j + 1)), M'))) else (bif decide ((64 : Int32) ≤ nI S.length) then (some (.inr (nI S.length, (nI (j + 1)), M'))) else (bif decide ((1000 : Int32) ≤ (M' (lo + 4) j)) then (b1 (f_X0_ofOne (M' (lo + 4) j) tw (nI p) M') (fun v15 => f_X0_holdsFor_89 lo tw (nI p) (nI e) (nI S.length) (nI j) (nI S.length) v15 M')) else (f_X0_holdsFor_89 lo tw (nI p) (nI e) (nI S.length) (nI j) (nI S.length) (M' (lo + 4) j) M')))) else (bif decide (nI S.length < (1 : Int32)) then (some (.inr (nI S.length, (nI (j + 1)), M'))) else (bif decide ((64 : Int32) < nI S.length) then (some (.inr (nI S.length, (nI (j + 1)), M'))) else (gd (mIn (nI S.length - (1 : Int32)) 64) (gd (mIn (nI S.length - (1 : Int32)) 64) (wr (mst M' (lo + 5) (ix (nI S.length - (1 : Int32))) ((1 : Int32) - (M' (lo + 5) (ix (nI S.length - (1 : Int32)))))) (fun M19 => some (.inr (nI S.length, (nI (j + 1)), M19))))))))) else (bif decide (nI S.length < (2 : Int32)) then (some (.inr (nI S.length, (nI (j + 1)), M'))) else (bif decide ((64 : Int32) < nI S.length) then (some (.inr (nI S.length, (nI (j + 1)), M'))) else (gd (mIn (nI S.length - (2 : Int32)) 64) (gd (mIn (nI S.length - (1 : Int32)) 64) (b1 (f_X0_ofTwo (M' (lo + 4) j) (M' (lo + 5) (ix (nI S.length - (2 : Int32)))) (M' (lo + 5) (ix (nI S.length - (1 : Int32))))) (fun v25 => gd (mIn (nI S.length - (2 : Int32)) 64) (wr (mst M' (lo + 5) (ix (nI S.length - (2 : Int32))) v25) (fun M26 => some (.inr ((nI S.length + (-1 : Int32)), (nI (j + 1)), M26)))))))))) : Option ((Bool × mM) ⊕ (Int32 × Int32 × mM))) := by
    unfold f_X0_holdsFor_6
    rw [e1, cond_false, e2, cond_false, gd_t (i_in (show j < 400 by omega) (by decide)), i_ix (by omega)]
    simp only [i_1]
  have hput : ∀ f, f_X0_holdsFor_89 lo tw (nI p) (nI e) (nI S.length) (nI j) (nI S.length) f M' = some (.inr (nI (f :: S).length, nI (j + 1), mst M' (lo + 5) S.length f)) := fun f => by
    unfold f_X0_holdsFor_89
    rw [gd_t (i_in (by omega) (by decide)), i_ix (by omega), wr_e, i_1, i_1]
    rfl
  have d1 : decide (nI S.length < 0) = false := decide_eq_false (nI_pos (by omega))
  have d2 : decide ((64 : Int32) ≤ nI S.length) = false := i_lit (a := 64) (by decide) (by omega)
  have fin1 : ∀ f, ∃ S' M2, (some (.inr (nI (f :: S).length, nI (j + 1), mst M' (lo + 5) S.length f)) : Option ((Bool × mM) ⊕ (Int32 × Int32 × mM))) = some (.inr (nI S'.length, nI (j + 1), M2)) ∧ S' = f :: S ∧ stk (M2 (lo + 5)) S' ∧ ∀ z, z ≠ lo + 5 → M2 z = M' z := fun f => ⟨f :: S, _, rfl, rfl, by rw [mst_at]; exact stk_put hS, fun z hz => mst_no hz⟩
  have fin2 : ∀ y x r v, S = y :: x :: r → ∃ S' M2, (some (.inr ((nI S.length + (-1 : Int32)), nI (j + 1), mst M' (lo + 5) r.length v)) : Option ((Bool × mM) ⊕ (Int32 × Int32 × mM))) = some (.inr (nI S'.length, nI (j + 1), M2)) ∧ S' = v :: r ∧ stk (M2 (lo + 5)) S' ∧ ∀ z, z ≠ lo + 5 → M2 z = M' z := fun y x r v hs2 => by
    subst hs2
    refine ⟨v :: r, mst M' (lo + 5) r.length v, ?_, rfl, ?_, fun z hz => mst_no hz⟩
    · rw [List.length_cons, i_m1, List.length_cons, List.length_cons]
    · rw [mst_at]
      exact stk_put hS.2.2
  have two : ∀ y x r v, S = y :: x :: r → f_X0_ofTwo (M' (lo + 4) j) x y = some v → decide ((M' (lo + 4) j) < (1011 : Int32)) = false → f_X0_holdsFor_6 lo tw (nI p) (nI e) (nI S.length) (nI j) M' = some (.inr ((nI S.length + (-1 : Int32)), nI (j + 1), mst M' (lo + 5) r.length v)) := fun y x r v hs2 hv hd => by
    rw [h0, hd, cond_false]
    subst hs2
    have hA1 : M' (lo + 5) (r.length + 1) = y := hS.1
    have hA2 : M' (lo + 5) r.length = x := hS.2.1
    simp only [List.length_cons] at hsl ⊢
    have s1 : nI (r.length + 1 + 1) - (1 : Int32) = nI (r.length + 1) := nI_pred _
    have s2 : nI (r.length + 1 + 1) - (2 : Int32) = nI r.length := by
      rw [show (2 : Int32) = nI 2 from rfl, pk_sub (by omega)]
      rfl
    rw [i_l2 (by omega), cond_false, i_64 (by omega), cond_false, s1, s2, gd_t (i_in (by omega) (by decide)), gd_t (i_in (by omega) (by decide)), i_ix (by omega), i_ix (by omega), hA1, hA2, hv, b1_s, gd_t (i_in (by omega) (by decide)), wr_e]
  rcases hcr with ⟨x, hx, es, ec⟩ | ⟨ec, es, x, hx, ea⟩ | ⟨es, ec⟩ | ⟨es, ec⟩ | ⟨es, ec⟩ | ⟨es, ec⟩ | ⟨es, ec⟩ | ⟨es, ec⟩
  · rw [h0, es, ec]
    have g1 : decide (nI (1000 + x) < (1011 : Int32)) = true := by
      rw [show (1011 : Int32) = nI 1011 from rfl, i_lt (by omega) (by decide)]
      exact decide_eq_true (by omega)
    have g2 : decide (¬ nI (1000 + x) = (1010 : Int32)) = true := by
      rw [dn, show (1010 : Int32) = nI 1010 from rfl, i_eq (by omega) (by decide), decide_eq_false (by omega)]; rfl
    have g3 : decide ((1000 : Int32) ≤ nI (1000 + x)) = true := by
      rw [show (1000 : Int32) = nI 1000 from rfl, i_le (by decide) (by omega)]
      exact decide_eq_true (by omega)
    rw [g1, cond_true, g2, cond_true, d1, cond_false, d2, cond_false, g3, cond_true, C_ofOne hw ht hT hp hx (a := W (474 + 2 * j)), b1_s, hput, stp_lo (by omega)]
    exact fin1 _
  · rw [h0, es, ec, ea]
    have g1 : decide (nI x < (1011 : Int32)) = true := by
      rw [show (1011 : Int32) = nI 1011 from rfl, i_lt (by omega) (by decide)]
      exact decide_eq_true (by omega)
    have g2 : decide (¬ nI x = (1010 : Int32)) = true := by
      rw [dn, show (1010 : Int32) = nI 1010 from rfl, i_eq (by omega) (by decide), decide_eq_false (by omega)]; rfl
    have g3 : decide ((1000 : Int32) ≤ nI x) = false := i_lit (a := 1000) (by decide) (by omega)
    rw [g1, cond_true, g2, cond_true, d1, cond_false, d2, cond_false, g3, cond_false, hput, show (10 : Int32) = nI 10 from rfl, stp_lo (by omega)]
    exact fin1 _
  · rw [ec] at hty
    obtain ⟨r, rfl, rfl⟩ := tyS_14 hty
    obtain ⟨v, S', rfl, h1, h2⟩ := tyO_1 hO
    rw [h0, es, ec]
    have hA1 : M' (lo + 5) S'.length = v := hS.1
    rw [show (v :: S').length = S'.length + 1 from rfl] at hsl ⊢
    have s1 : nI (S'.length + 1) - (1 : Int32) = nI S'.length := nI_pred _
    rw [show decide ((1010 : Int32) < (1011 : Int32)) = true from rfl, cond_true, show decide (¬ (1010 : Int32) = (1010 : Int32)) = false from rfl, cond_false, i_l1 (by omega), cond_false, i_64 (by omega), cond_false, s1, gd_t (i_in (by omega) (by decide)), gd_t (i_in (by omega) (by decide)), i_ix (by omega), hA1, wr_e]
    refine ⟨((1 : Int32) - v) :: S', mst M' (lo + 5) S'.length (1 - v), rfl, rfl, ?_, fun z hz => mst_no hz⟩
    rw [mst_at]
    exact stk_put hS.2
  · rw [ec] at hty
    obtain ⟨r, rfl, rfl⟩ := tyS_15 (Or.inl rfl) hty
    obtain ⟨y, x, S', rfl, h1, h2, h3⟩ := tyO_2 hO
    rw [two y x S' (op2 15 x y) rfl (by rw [es, ← and01 (h2 rfl) (h1 rfl)]; rfl) (by rw [es]; rfl), ec, stp_2 (by decide)]
    exact fin2 y x S' _ rfl
  · rw [ec] at hty
    obtain ⟨r, rfl, rfl⟩ := tyS_15 (Or.inr rfl) hty
    obtain ⟨y, x, S', rfl, h1, h2, h3⟩ := tyO_2 hO
    rw [two y x S' (op2 16 x y) rfl (by rw [es, ← or01 (h2 rfl) (h1 rfl)]; rfl) (by rw [es]; rfl), ec, stp_2 (by decide)]
    exact fin2 y x S' _ rfl
  · rw [ec] at hty
    obtain ⟨r, rfl, rfl⟩ := tyS_11 hty
    obtain ⟨y, x, S', rfl, h1, h2, h3⟩ := tyO_2 hO
    rw [two y x S' (op2 11 x y) rfl (by rw [es]; rfl) (by rw [es]; rfl), ec, stp_2 (by decide)]
    exact fin2 y x S' _ rfl
  · rw [ec] at hty
    obtain ⟨r, rfl, rfl⟩ := tyS_12 (Or.inl rfl) hty
    obtain ⟨y, x, S', rfl, h1, h2, h3⟩ := tyO_2 hO
    rw [two y x S' (op2 12 x y) rfl (by rw [es]; exact of2_12) (by rw [es]; rfl), ec, stp_2 (by decide)]
    exact fin2 y x S' _ rfl
  · rw [ec] at hty
    obtain ⟨r, rfl, rfl⟩ := tyS_12 (Or.inr rfl) hty
    obtain ⟨y, x, S', rfl, h1, h2, h3⟩ := tyO_2 hO
    rw [two y x S' (op2 13 x y) rfl (by rw [es]; exact of2_13) (by rw [es]; rfl), ec, stp_2 (by decide)]
    exact fin2 y x S' _ rfl
/-- a line, by the class -/
theorem C_line (hw : WF n W) {M : mM} {lo tw p s e : Nat} {T : Nat → List Bool} (ht : TS n W M tw) (hl : mLwB lo = true) (hT : mTwB tw = true) (hp : p < n) (h : LnT W (M (lo + 4)) s e T) (hsep : tw + 11 < lo ∨ lo + 5 < tw) : ∃ M2, f_X0_holdsFor lo tw (nI p) (nI s) (nI e) M = some (lnV n W p s e, M2) ∧ ∀ z, z ≠ lo + 5 → M2 z = M z := by
  have h8 := hw.2.1
  have hmx : mMax (0 : Int32) (nI s) = nI s := by
    rw [mMax_b]
    cases z : decide (nI s ≤ (0 : Int32))
    · rfl
    · have z2 := of_decide_eq_true z
      have : s = 0 := by
        by_cases hs0 : s = 0
        · exact hs0
        · exact absurd z2 (nI_nle (by omega) (by have := h.1; have := h.2.1; omega))
      rw [this]; rfl
  unfold f_X0_holdsFor f_X0_holdsFor_l6
  rw [gd_t hl, gd_t hT, hmx]
  have hse := h.1
  have he4 := h.2.1
  refine wh_V (fun k (q : Int32 × Int32 × mM) => q.1 = nI (lnS n W p s k).length ∧ q.2.1 = nI (s + k) ∧ stk (q.2.2 (lo + 5)) (lnS n W p s k) ∧ ∀ z, z ≠ lo + 5 → q.2.2 z = M z) _ _ (e - s) 100000 _ ⟨rfl, rfl, trivial, fun _ _ => rfl⟩ (fun k hk q hq => ?_) (fun q hq => ?_) (by omega)
  · obtain ⟨q1, q2, M'⟩ := q
    obtain ⟨rfl, rfl, g3, g4⟩ := hq
    dsimp only at g3 g4
    have hM4 : M' (lo + 4) = M (lo + 4) := g4 _ (by omega)
    obtain ⟨c1, c2, c3, c4⟩ := h.2.2.2 (s + k) (by omega) (by omega)
    have hO := h.ty hw hp k (by omega)
    have ht' : TS n W M' tw := ht.in216 h8 fun z g1 g2 => g4 z (by omega)
    obtain ⟨T', hT'⟩ : ∃ T', tyS (W (473 + 2 * (s + k))) (T (s + k)) T' := by
      by_cases hlast : s + k + 1 = e
      · exact ⟨_, c4 hlast⟩
      · exact ⟨_, c3 (by omega)⟩
    obtain ⟨S', M2, d1, d2, d3, d4⟩ := C_step hw (M := M) (M' := M') ht' hl hT hp (show s + k < e by omega) he4 (by rw [hM4]; exact c1) hT' hO c2 g3
    refine ⟨(nI S'.length, nI (s + k + 1), M2), d1, ?_, rfl, ?_, fun z hz => (d4 z hz).trans (g4 z hz)⟩
    · rw [d2]; rfl
    · have : S' = lnS n W p s (k + 1) := d2
      rw [← this]
      exact d3
  · obtain ⟨q1, q2, M'⟩ := q
    obtain ⟨rfl, rfl, g3, g4⟩ := hq
    dsimp only at g3 g4
    refine ⟨M', ?_, g4⟩
    show f_X0_holdsFor_6 lo tw (nI p) (nI e) (nI (lnS n W p s (e - s)).length) (nI (s + (e - s))) M' = _
    unfold f_X0_holdsFor_6 f_X0_holdsFor_93 lnV
    rw [show s + (e - s) = e by omega, i_lee, cond_true]
    rcases h.end hw hp with ⟨z1, -⟩ | ⟨v, z1, z2, -⟩
    · rw [z1]
      rfl
    · rw [z1] at g3 ⊢
      have hv : M' (lo + 5) 0 = v := g3.1
      rw [show ix (0 : Int32) = 0 from rfl, hv]
      rcases z2 with rfl | rfl <;> rfl
end
