/-! the law: the reference's lines; sums of both -/
section
variable {n : Nat}
theorem i_a (a b : Nat) : nI a + nI b = nI (a + b) := nI_add a b
theorem d10 {c k : Nat} (hk : 10 < k) (hc : k < 2 ^ 31) (h : c = k) : decide ((10 : Int32) < nI c) = true := by
  subst h
  rw [show (10 : Int32) = nI 10 from rfl, i_lt (by decide) hc]
  exact decide_eq_true hk
/-- a step, by the reference -/
theorem M_step {W : Nat → Int32} {M' : mM} {p e j l : Nat} {S : List Int32} {T T' : List Bool} {R : Int32} (h216 : M' 216 = W) (hw : WF n W) (hp : p < n) (hb : M' 221 p = rCar n W (fun _ => 0) p) (hl : l < 12) (hje : W (428 + 4 * l) = nI e) (hj : j < e) (he : e ≤ 400) (hcr : CR R (W (473 + 2 * j)) (W (474 + 2 * j))) (hty : tyS (W (473 + 2 * j)) T T') (hO : tyO T S) (hln : T.length ≤ 60) (hS : stk (M' 225) S) :
    ∃ S' M2, f_X12_holdsLine_15 (nI p) (nI S.length) (nI (425 + 4 * l)) (nI j) M' = some (.inr (nI S'.length, nI (j + 1), M2)) ∧ S' = stp (factV n W (W (473 + 2 * j)) (W (474 + 2 * j)) p) (W (473 + 2 * j)) S ∧ stk (M2 225) S' ∧ ∀ z, z ≠ 225 → M2 z = M' z := by
  have h8 := hw.2.1
  have hlen := tyO_len hO
  have hsl : S.length ≤ 60 := by omega
  have hn' : M' 216 0 = nI n := by rw [h216]; exact hw.1
  have a1 : nI (425 + 4 * l) + (3 : Int32) = nI (428 + 4 * l) := by rw [show (3 : Int32) = nI 3 from rfl, nI_add, show 425 + 4 * l + 3 = 428 + 4 * l by omega]
  have a2 : (473 : Int32) + (2 : Int32) * nI j = nI (473 + 2 * j) := by rw [show (473 : Int32) = nI 473 from rfl, show (2 : Int32) = nI 2 from rfl, pk_mul, nI_add]
  have a3 : nI (473 + 2 * j) + (1 : Int32) = nI (474 + 2 * j) := by rw [nI_1, show 473 + 2 * j + 1 = 474 + 2 * j by omega]
  have e1 : decide (nI e ≤ nI j) = false := i_lit (by omega) hj
  have hput : ∀ s1 s2 v, s1 < 400 → f_X12_holdsLine_143 (nI p) s2 (nI (425 + 4 * l)) (nI j) (nI s1) v M' = some (.inr (s2, nI (j + 1), mst M' 225 s1 v)) := fun s1 s2 v hs => by
    unfold f_X12_holdsLine_143
    rw [gd_t (i_in hs (by decide)), i_ix (by omega), wr_e, i_1]
  have fin2 : ∀ y x r v, S = y :: x :: r → ∃ S' M2, (some (.inr (nI (r.length + 1), nI (j + 1), mst M' 225 r.length v)) : Option ((Bool × mM) ⊕ (Int32 × Int32 × mM))) = some (.inr (nI S'.length, nI (j + 1), M2)) ∧ S' = v :: r ∧ stk (M2 225) S' ∧ ∀ z, z ≠ 225 → M2 z = M' z := fun y x r v hs2 => by
    subst hs2
    refine ⟨v :: r, _, rfl, rfl, ?_, fun z hz => mst_no hz⟩
    rw [mst_at]
    exact stk_put hS.2.2
  have two : ∀ y x r c, S = y :: x :: r → W (473 + 2 * j) = c → (c = 11 ∨ c = 12 ∨ c = 13 ∨ c = 15 ∨ c = 16) → f_X12_holdsLine_15 (nI p) (nI S.length) (nI (425 + 4 * l)) (nI j) M' = some (.inr (nI (r.length + 1), nI (j + 1), mst M' 225 r.length (op2 c x y))) := fun y x r c hs2 hc hcc => by
    subst hs2
    have hA1 : M' 225 (r.length + 1) = y := hS.1
    have hA2 : M' 225 r.length = x := hS.2.1
    simp only [List.length_cons] at hsl ⊢
    have s1 : nI (r.length + 1 + 1) + (-1 : Int32) = nI (r.length + 1) := i_m1 _
    have s2 : nI (r.length + 1) - (1 : Int32) = nI r.length := nI_pred _
    unfold f_X12_holdsLine_15 f_X12_holdsLine_125
    simp only [a1, a2, a3, s1, s2, h216, gd_t (i_in (show 428 + 4 * l < 2122 by omega) (by decide)), i_ix (show 428 + 4 * l < 2 ^ 31 by omega), hje, e1, cond_false, gd_t (i_in (show 473 + 2 * j < 2122 by omega) (by decide)), i_ix (show 473 + 2 * j < 2 ^ 31 by omega), hc, gd_t (i_in (show r.length < 400 by omega) (by decide)), gd_t (i_in (show r.length + 1 < 400 by omega) (by decide)), i_ix (show r.length < 2 ^ 31 by omega), i_ix (show r.length + 1 < 2 ^ 31 by omega), hA1, hA2, hput r.length _ _ (by omega)]
    rcases hcc with rfl | rfl | rfl | rfl | rfl
    · cases decide (x + y ≤ 0) <;> rfl
    · show (bif decide (y ≤ x) then some (Sum.inr (nI (r.length + 1), nI (j + 1), mst M' 225 r.length 0)) else some (Sum.inr (nI (r.length + 1), nI (j + 1), mst M' 225 r.length 1))) = some (Sum.inr (nI (r.length + 1), nI (j + 1), mst M' 225 r.length (mB (decide (x < y)))))
      by_cases h : y ≤ x
      · rw [decide_eq_true h, decide_eq_false (Int32.not_lt.mpr h)]; rfl
      · rw [decide_eq_false h, decide_eq_true (Int32.not_le.mp h)]; rfl
    · show (bif decide (x ≤ y) then some (Sum.inr (nI (r.length + 1), nI (j + 1), mst M' 225 r.length 0)) else some (Sum.inr (nI (r.length + 1), nI (j + 1), mst M' 225 r.length 1))) = some (Sum.inr (nI (r.length + 1), nI (j + 1), mst M' 225 r.length (mB (decide (y < x)))))
      by_cases h : x ≤ y
      · rw [decide_eq_true h, decide_eq_false (Int32.not_lt.mpr h)]; rfl
      · rw [decide_eq_false h, decide_eq_true (Int32.not_le.mp h)]; rfl
    · show (bif decide (¬ x + y = (2 : Int32)) then some (Sum.inr (nI (r.length + 1), nI (j + 1), mst M' 225 r.length 0)) else some (Sum.inr (nI (r.length + 1), nI (j + 1), mst M' 225 r.length 1))) = some (Sum.inr (nI (r.length + 1), nI (j + 1), mst M' 225 r.length (mB (decide (x + y = 2)))))
      rw [dn]
      cases decide (x + y = (2 : Int32)) <;> rfl
    · show (bif decide (x + y ≤ 0) then some (Sum.inr (nI (r.length + 1), nI (j + 1), mst M' 225 r.length 0)) else some (Sum.inr (nI (r.length + 1), nI (j + 1), mst M' 225 r.length 1))) = some (Sum.inr (nI (r.length + 1), nI (j + 1), mst M' 225 r.length (mB (!decide (x + y ≤ 0)))))
      cases decide (x + y ≤ (0 : Int32)) <;> rfl
  have low : ∀ x, x ≤ 10 → W (473 + 2 * j) = nI x → ∃ S' M2, f_X12_holdsLine_15 (nI p) (nI S.length) (nI (425 + 4 * l)) (nI j) M' = some (.inr (nI S'.length, nI (j + 1), M2)) ∧ S' = factV n W (nI x) (W (474 + 2 * j)) p :: S ∧ stk (M2 225) S' ∧ ∀ z, z ≠ 225 → M2 z = M' z := fun x hx hc => by
    refine ⟨factV n W (nI x) (W (474 + 2 * j)) p :: S, mst M' 225 S.length (factV n W (nI x) (W (474 + 2 * j)) p), ?_, rfl, ?_, fun z hz => mst_no hz⟩
    · have hf : f_X12_factOf (nI x) (W (474 + 2 * j)) (nI p) M' = some (factV n W (nI x) (W (474 + 2 * j)) p) := by
        rw [m_factOf hn' h8 (by omega) (by rw [h216]; exact hb), h216]
      unfold f_X12_holdsLine_15
      simp only [a1, a2, a3, h216, gd_t (i_in (show 428 + 4 * l < 2122 by omega) (by decide)), i_ix (show 428 + 4 * l < 2 ^ 31 by omega), hje, e1, cond_false, gd_t (i_in (show 473 + 2 * j < 2122 by omega) (by decide)), i_ix (show 473 + 2 * j < 2 ^ 31 by omega), gd_t (i_in (show 474 + 2 * j < 2122 by omega) (by decide)), i_ix (show 474 + 2 * j < 2 ^ 31 by omega), hc, lo10 hx, hf, b1_s, gd_t (i_in (show S.length < 400 by omega) (by decide)), i_ix (show S.length < 2 ^ 31 by omega), wr_e, i_1]
      rfl
    · rw [mst_at]
      exact stk_put hS
  rcases hcr with ⟨x, hx, es, ec⟩ | ⟨ec, es, x, hx, ea⟩ | ⟨es, ec⟩ | ⟨es, ec⟩ | ⟨es, ec⟩ | ⟨es, ec⟩ | ⟨es, ec⟩ | ⟨es, ec⟩
  · obtain ⟨S', M2, q1, q2, q3, q4⟩ := low x (by omega) ec
    exact ⟨S', M2, q1, by rw [q2, ec, stp_lo (by omega)], q3, q4⟩
  · obtain ⟨S', M2, q1, q2, q3, q4⟩ := low 10 (by omega) ec
    exact ⟨S', M2, q1, by rw [q2, ec, show (10 : Int32) = nI 10 from rfl, stp_lo (by omega)], q3, q4⟩
  · have ec' := ec
    rw [ec] at hty
    obtain ⟨r, rfl, rfl⟩ := tyS_14 hty
    obtain ⟨v, S', rfl, h1, h2⟩ := tyO_1 hO
    have hA1 : M' 225 S'.length = v := hS.1
    refine ⟨((1 : Int32) - v) :: S', mst M' 225 S'.length (1 - v), ?_, by rw [ec]; rfl, ?_, fun z hz => mst_no hz⟩
    · simp only [List.length_cons] at hsl ⊢
      have s2 : nI (S'.length + 1) - (1 : Int32) = nI S'.length := nI_pred _
      unfold f_X12_holdsLine_15
      simp only [a1, a2, s2, h216, gd_t (i_in (show 428 + 4 * l < 2122 by omega) (by decide)), i_ix (show 428 + 4 * l < 2 ^ 31 by omega), hje, e1, cond_false, gd_t (i_in (show 473 + 2 * j < 2122 by omega) (by decide)), i_ix (show 473 + 2 * j < 2 ^ 31 by omega), ec', gd_t (i_in (show S'.length < 400 by omega) (by decide)), i_ix (show S'.length < 2 ^ 31 by omega), hA1, wr_e, i_1]
      rfl
    · rw [mst_at]
      exact stk_put hS.2
  · have ec' := ec
    rw [ec] at hty
    obtain ⟨r, rfl, rfl⟩ := tyS_15 (Or.inl rfl) hty
    obtain ⟨y, x, S', rfl, h1, h2, h3⟩ := tyO_2 hO
    rw [two y x S' 15 rfl ec' (by decide), ec, stp_2 (by decide)]
    exact fin2 y x S' _ rfl
  · have ec' := ec
    rw [ec] at hty
    obtain ⟨r, rfl, rfl⟩ := tyS_15 (Or.inr rfl) hty
    obtain ⟨y, x, S', rfl, h1, h2, h3⟩ := tyO_2 hO
    rw [two y x S' 16 rfl ec' (by decide), ec, stp_2 (by decide)]
    exact fin2 y x S' _ rfl
  · have ec' := ec
    rw [ec] at hty
    obtain ⟨r, rfl, rfl⟩ := tyS_11 hty
    obtain ⟨y, x, S', rfl, h1, h2, h3⟩ := tyO_2 hO
    rw [two y x S' 11 rfl ec' (by decide), ec, stp_2 (by decide)]
    exact fin2 y x S' _ rfl
  · have ec' := ec
    rw [ec] at hty
    obtain ⟨r, rfl, rfl⟩ := tyS_12 (Or.inl rfl) hty
    obtain ⟨y, x, S', rfl, h1, h2, h3⟩ := tyO_2 hO
    rw [two y x S' 12 rfl ec' (by decide), ec, stp_2 (by decide)]
    exact fin2 y x S' _ rfl
  · have ec' := ec
    rw [ec] at hty
    obtain ⟨r, rfl, rfl⟩ := tyS_12 (Or.inr rfl) hty
    obtain ⟨y, x, S', rfl, h1, h2, h3⟩ := tyO_2 hO
    rw [two y x S' 13 rfl ec' (by decide), ec, stp_2 (by decide)]
    exact fin2 y x S' _ rfl
/-- a line, by the reference -/
theorem M_line {W : Nat → Int32} {M : mM} {p s e l : Nat} {R : Nat → Int32} {T : Nat → List Bool} (h216 : M 216 = W) (hw : WF n W) (hp : p < n) (hb : M 221 p = rCar n W (fun _ => 0) p) (hl : l < 12) (hjs : W (427 + 4 * l) = nI s) (hje : W (428 + 4 * l) = nI e) (h : LnT W R s e T) : ∃ M2, f_X12_holdsLine (nI l) (nI p) M = some (lnV n W p s e, M2) ∧ ∀ z, z ≠ 225 → M2 z = M z := by
  have h8 := hw.2.1
  have hse := h.1
  have he4 := h.2.1
  have a0 : (425 : Int32) + (4 : Int32) * nI l = nI (425 + 4 * l) := by rw [show (425 : Int32) = nI 425 from rfl, show (4 : Int32) = nI 4 from rfl, pk_mul, nI_add]
  have a1 : nI (425 + 4 * l) + (2 : Int32) = nI (427 + 4 * l) := by rw [show (2 : Int32) = nI 2 from rfl, nI_add, show 425 + 4 * l + 2 = 427 + 4 * l by omega]
  have a3 : nI (425 + 4 * l) + (3 : Int32) = nI (428 + 4 * l) := by rw [show (3 : Int32) = nI 3 from rfl, nI_add, show 425 + 4 * l + 3 = 428 + 4 * l by omega]
  unfold f_X12_holdsLine f_X12_holdsLine_l15
  rw [a0, a1, gd_t (i_in (by omega) (by decide)), i_ix (by omega), h216, hjs]
  refine wh_V (fun k (q : Int32 × Int32 × mM) => q.1 = nI (lnS n W p s k).length ∧ q.2.1 = nI (s + k) ∧ stk (q.2.2 225) (lnS n W p s k) ∧ ∀ z, z ≠ 225 → q.2.2 z = M z) _ _ (e - s) 100000 _ ⟨rfl, rfl, trivial, fun _ _ => rfl⟩ (fun k hk q hq => ?_) (fun q hq => ?_) (by omega)
  · obtain ⟨q1, q2, M'⟩ := q
    obtain ⟨rfl, rfl, g3, g4⟩ := hq
    dsimp only at g3 g4
    obtain ⟨c1, c2, c3, c4⟩ := h.2.2.2 (s + k) (by omega) (by omega)
    have hO := h.ty hw hp k (by omega)
    obtain ⟨T', hT'⟩ : ∃ T', tyS (W (473 + 2 * (s + k))) (T (s + k)) T' := by
      by_cases hlast : s + k + 1 = e
      · exact ⟨_, c4 hlast⟩
      · exact ⟨_, c3 (by omega)⟩
    obtain ⟨S', M2, d1, d2, d3, d4⟩ := M_step (M' := M') (by rw [g4 216 (by decide)]; exact h216) hw hp (by rw [g4 221 (by decide)]; exact hb) hl hje (show s + k < e by omega) he4 c1 hT' hO c2 g3
    refine ⟨(nI S'.length, nI (s + k + 1), M2), d1, ?_, rfl, ?_, fun z hz => (d4 z hz).trans (g4 z hz)⟩
    · rw [d2]; rfl
    · have : S' = lnS n W p s (k + 1) := d2
      rw [← this]
      exact d3
  · obtain ⟨q1, q2, M'⟩ := q
    obtain ⟨rfl, rfl, g3, g4⟩ := hq
    dsimp only at g3 g4
    refine ⟨M', ?_, g4⟩
    show f_X12_holdsLine_15 (nI p) (nI (lnS n W p s (e - s)).length) (nI (425 + 4 * l)) (nI (s + (e - s))) M' = _
    unfold f_X12_holdsLine_15 lnV
    rw [show s + (e - s) = e by omega, a3, gd_t (i_in (by omega) (by decide)), i_ix (by omega), g4 216 (by decide), h216, hje, i_lee, cond_true]
    rcases h.end hw hp with ⟨z1, -⟩ | ⟨v, z1, z2, -⟩
    · rw [z1]
      rfl
    · rw [z1] at g3 ⊢
      have hv : M' 225 0 = v := g3.1
      rw [show ix (0 : Int32) = 0 from rfl, hv]
      rcases z2 with rfl | rfl <;> rfl
/-! sums -/
def untV (n : Nat) (W : Nat → Int32) (kind : Int32) (p : Nat) : Int32 := bif decide (kind = 0) then (bif hoB W p then 5 else 0) else bif decide (kind = 2) then pv W p 4 else (bif hoB W p then 0 else 10)
def lawK (n : Nat) (W : Nat → Int32) (kind : Int32) (p : Nat) : Nat → Int32
  | 0 => 0
  | i + 1 => bif decide (W (425 + 4 * i) = kind) && lnV n W p (ix (W (427 + 4 * i))) (ix (W (428 + 4 * i))) then lawK n W kind p i + W (426 + 4 * i) else lawK n W kind p i
def lawV (n : Nat) (W : Nat → Int32) (kind : Int32) (p : Nat) : Int32 := bif decide (W 2 = 0) then untV n W kind p else lawK n W kind p (ix (W 424))
/-- LW, line by line -/
theorem LW.ln {W : Nat → Int32} {M : mM} {o : Nat} (h : LW W M o) (h1 : W 2 ≠ 0) : M o 0 = 1 ∧ ∃ m, m ≤ 12 ∧ M o 1 = nI m ∧ W 424 = nI m ∧ ∃ (e : Nat → Nat) (T : Nat → List Bool), ∀ i, i < m → (∃ k, k ≤ 2 ∧ M (o + 1) i = nI k ∧ W (425 + 4 * i) = nI k) ∧ (∃ a, a ≤ 100 ∧ M (o + 2) i = nI a ∧ W (426 + 4 * i) = nI a) ∧ M (o + 3) i = nI (e i) ∧ W (427 + 4 * i) = nI (sgE e i) ∧ W (428 + 4 * i) = nI (e i) ∧ LnT W (M (o + 4)) (sgE e i) (e i) T := by
  rcases h with ⟨a, b⟩ | ⟨a, b, m, hm, c1, c2, e, T, h⟩
  · exact absurd b h1
  · refine ⟨a, m, hm, c1, c2, e, T, fun i hi => ?_⟩
    obtain ⟨d1, d2, d3, d4, d5, d6, d7, d8, d9⟩ := h i hi
    exact ⟨d1, d2, d3, d4, d5, d6, d7, d8, d9⟩
theorem LW.m0 {W : Nat → Int32} {M : mM} {o : Nat} (h : LW W M o) : decide (M o 0 = 0) = decide (W 2 = 0) := by
  rcases h with ⟨a, b⟩ | ⟨a, b, -⟩ <;> rw [a, b]
theorem C_amount {W : Nat → Int32} (hw : WF n W) {M : mM} {lo tw p : Nat} (ht : TS n W M tw) (hL : LW W M lo) (hl : mLwB lo = true) (hT : mTwB tw = true) (hp : p < n) (hsep : tw + 11 < lo ∨ lo + 5 < tw) {kind : Int32} (hk : kind = 0 ∨ kind = 1 ∨ kind = 2) : ∃ M2, f_X0_amountOf lo kind tw (nI p) M = some (lawV n W kind p, M2) ∧ ∀ z, z ≠ lo + 5 → M2 z = M z := by
  have h8 := hw.2.1
  have g := ht.1.pp hp
  unfold f_X0_amountOf lawV
  rw [gd_t hl, gd_t hT, dn, hL.m0]
  cases h2 : decide (W 2 = 0)
  · obtain ⟨-, m, hm, c1, c2, e, T, h⟩ := hL.ln (of_decide_eq_false h2)
    rw [Bool.not_false, cond_true, cond_false, c2, i_ix (by omega)]
    unfold f_X0_amountOf_l14
    refine wh_V (fun i (q : Int32 × Int32 × Int32 × mM) => q.1 = lawK n W kind p i ∧ q.2.1 = nI (sgE e i) ∧ q.2.2.1 = nI i ∧ ∀ z, z ≠ lo + 5 → q.2.2.2 z = M z) _ _ m 100000 _ ⟨rfl, rfl, rfl, fun _ _ => rfl⟩ (fun i hi q hq => ?_) (fun q hq => ?_) (by omega)
    · obtain ⟨q1, q2, q3, M'⟩ := q
      obtain ⟨rfl, rfl, rfl, g4⟩ := hq
      dsimp only at g4
      obtain ⟨⟨k, hk2, k1, k2⟩, ⟨a, ha, a1, a2⟩, d3, d4, d5, d6⟩ := h i hi
      have r0 : M' lo = M lo := g4 _ (by omega)
      have r1 : M' (lo + 1) = M (lo + 1) := g4 _ (by omega)
      have r3 : M' (lo + 3) = M (lo + 3) := g4 _ (by omega)
      have r4 : M' (lo + 4) = M (lo + 4) := g4 _ (by omega)
      obtain ⟨M2, z1, z2⟩ := C_line hw (M := M') (ht.in216 h8 fun z g1 g2 => g4 z (by omega)) hl hT hp (by rw [r4]; exact d6) hsep
      have y2 : M2 (lo + 2) = M (lo + 2) := by rw [z2 _ (by omega), g4 _ (by omega)]
      have y3 : M2 (lo + 3) = M (lo + 3) := by rw [z2 _ (by omega), g4 _ (by omega)]
      have es : sgE e (i + 1) = e i := rfl
      have ek : lawK n W kind p (i + 1) = bif decide (nI k = kind) && lnV n W p (sgE e i) (e i) then lawK n W kind p i + nI a else lawK n W kind p i := by
        show (bif decide (W (425 + 4 * i) = kind) && lnV n W p (ix (W (427 + 4 * i))) (ix (W (428 + 4 * i))) then lawK n W kind p i + W (426 + 4 * i) else lawK n W kind p i) = _
        have q6 := d6.1
        have q7 := d6.2.1
        rw [k2, d4, d5, a2, i_ix (by omega), i_ix (by omega)]
      have step : f_X0_amountOf_14 lo tw kind (nI p) (lawK n W kind p i) (nI (sgE e i)) (nI i) M' = bif decide (nI k = kind) then (bif lnV n W p (sgE e i) (e i) then some (.inr (lawK n W kind p i + nI a, nI (e i), nI (i + 1), M2)) else some (.inr (lawK n W kind p i, nI (e i), nI (i + 1), M2))) else some (.inr (lawK n W kind p i, nI (e i), nI (i + 1), M')) := by
        unfold f_X0_amountOf_14
        rw [show decide ((12 : Int32) ≤ nI i) = false from i_lit (a := 12) (by decide) (by omega), cond_false, r0, c1, i_lit (by omega) hi, cond_false, gd_t (i_in (show i < 12 by omega) (by decide)), i_ix (by omega), r1, k1, dn]
        cases hkk : decide (nI k = kind)
        · rw [Bool.not_false, cond_true, cond_false, gd_t (i_in (show i < 12 by omega) (by decide)), r3, d3, i_1]
        · rw [Bool.not_true, cond_false, cond_true, gd_t (i_in (show i < 12 by omega) (by decide)), r3, d3, z1, b2_s, y2, y3, a1, d3, i_1]
          cases lnV n W p (sgE e i) (e i)
          · rw [cond_false, cond_false, gd_t (i_in (show i < 12 by omega) (by decide))]
          · rw [cond_true, cond_true, gd_t (i_in (show i < 12 by omega) (by decide)), gd_t (i_in (show i < 12 by omega) (by decide))]
      show ∃ s', f_X0_amountOf_14 lo tw kind (nI p) (lawK n W kind p i) (nI (sgE e i)) (nI i) M' = some (.inr s') ∧ _
      rw [step]
      cases hkk : decide (nI k = kind)
      · exact ⟨_, rfl, by rw [ek, hkk]; rfl, rfl, rfl, g4⟩
      · cases hv : lnV n W p (sgE e i) (e i)
        · exact ⟨_, rfl, by rw [ek, hkk, hv]; rfl, rfl, rfl, fun z hz => (z2 z hz).trans (g4 z hz)⟩
        · exact ⟨_, rfl, by rw [ek, hkk, hv]; rfl, rfl, rfl, fun z hz => (z2 z hz).trans (g4 z hz)⟩
    · obtain ⟨q1, q2, q3, M'⟩ := q
      obtain ⟨rfl, rfl, rfl, g4⟩ := hq
      dsimp only at g4
      refine ⟨M', ?_, g4⟩
      show f_X0_amountOf_14 lo tw kind (nI p) (lawK n W kind p m) (nI (sgE e m)) (nI m) M' = _
      unfold f_X0_amountOf_14
      rw [g4 lo (by omega), c1, i_lee, cond_true]
      cases decide ((12 : Int32) ≤ nI m) <;> rfl
  · refine ⟨M, ?_, fun _ _ => rfl⟩
    rw [Bool.not_true, cond_false, cond_true]
    unfold f_X0_untold untV
    rw [gd_t hT, T_hold hT, ht.1.ho, b1_s, has_hs (by omega), hs_hos (by omega), decide_eq_true hp, Bool.true_and, gd_t (i_in (show p < 8 by omega) (by decide)), i_ix (by omega), g.2.2.2.1]
    rcases hk with rfl | rfl | rfl <;> cases hoB W p <;> rfl
theorem M_byLaw {W : Nat → Int32} (hw : WF n W) {M Mc : mM} {lo p : Nat} (h216 : M 216 = W) (hL : LW W Mc lo) (hp : p < n) {kind : Int32} (hk : kind = 0 ∨ kind = 1 ∨ kind = 2) : ∃ M2, f_X12_byLaw kind (nI p) M = some (lawV n W kind p, M2) ∧ ∀ z, z ≠ 221 → z ≠ 225 → M2 z = M z := by
  have h8 := hw.2.1
  have hn' : M 216 0 = nI n := by rw [h216]; exact hw.1
  unfold f_X12_byLaw lawV
  rw [show ix (2 : Int32) = 2 from rfl, h216, dn]
  cases h2 : decide (W 2 = 0)
  · obtain ⟨-, m, hm, c1, c2, e, T, h⟩ := hL.ln (of_decide_eq_false h2)
    rw [Bool.not_false, cond_true, cond_false, c2, i_ix (by omega), m_lays hn' h8, b2_s]
    unfold f_X12_byLaw_l16
    refine wh_V (fun i (q : Int32 × Int32 × mM) => q.1 = lawK n W kind p i ∧ q.2.1 = nI i ∧ ∀ z, z ≠ 225 → q.2.2 z = rs M 221 (rCar n (M 216) (M 221)) z) _ _ m 100000 _ ⟨rfl, rfl, fun _ _ => rfl⟩ (fun i hi q hq => ?_) (fun q hq => ?_) (by omega)
    · obtain ⟨q1, q2, M'⟩ := q
      obtain ⟨rfl, rfl, g4⟩ := hq
      dsimp only at g4
      obtain ⟨⟨k, hk2, k1, k2⟩, ⟨a, ha, a1, a2⟩, d3, d4, d5, d6⟩ := h i hi
      have e216 : M' 216 = W := by rw [g4 216 (by decide), rs_ne (by decide), h216]
      obtain ⟨M2, z1, z2⟩ := M_line (M := M') (p := p) e216 hw hp (by rw [g4 221 (by decide), rs_at, h216]; exact rCar_in (by omega)) (show i < 12 by omega) d4 d5 d6
      have y2 : M2 216 = W := by rw [z2 _ (by decide), e216]
      have ek : lawK n W kind p (i + 1) = bif decide (nI k = kind) && lnV n W p (sgE e i) (e i) then lawK n W kind p i + nI a else lawK n W kind p i := by
        show (bif decide (W (425 + 4 * i) = kind) && lnV n W p (ix (W (427 + 4 * i))) (ix (W (428 + 4 * i))) then lawK n W kind p i + W (426 + 4 * i) else lawK n W kind p i) = _
        have q6 := d6.1
        have q7 := d6.2.1
        rw [k2, d4, d5, a2, i_ix (by omega), i_ix (by omega)]
      have b0 : (425 : Int32) + (4 : Int32) * nI i = nI (425 + 4 * i) := by rw [show (425 : Int32) = nI 425 from rfl, show (4 : Int32) = nI 4 from rfl, pk_mul, nI_add]
      have b1 : nI (425 + 4 * i) + (1 : Int32) = nI (426 + 4 * i) := by rw [nI_1, show 425 + 4 * i + 1 = 426 + 4 * i by omega]
      have step : f_X12_byLaw_16 kind (nI p) (lawK n W kind p i) (nI i) M' = bif decide (nI k = kind) then (bif lnV n W p (sgE e i) (e i) then some (.inr (lawK n W kind p i + nI a, nI (i + 1), M2)) else some (.inr (lawK n W kind p i, nI (i + 1), M2))) else some (.inr (lawK n W kind p i, nI (i + 1), M')) := by
        unfold f_X12_byLaw_16
        rw [show ix (424 : Int32) = 424 from rfl, e216, c2, i_lit (by omega) hi, cond_false, b0, gd_t (i_in (by omega) (by decide)), i_ix (by omega), k2, dn]
        cases hkk : decide (nI k = kind)
        · rw [Bool.not_false, cond_true, cond_false, i_1]
        · rw [Bool.not_true, cond_false, cond_true, z1, b2_s, b1, i_ix (by omega), y2, a2, i_1]
          cases lnV n W p (sgE e i) (e i)
          · rfl
          · rw [cond_true, cond_true, gd_t (i_in (by omega) (by decide))]
      show ∃ s', f_X12_byLaw_16 kind (nI p) (lawK n W kind p i) (nI i) M' = some (.inr s') ∧ _
      rw [step]
      cases hkk : decide (nI k = kind)
      · exact ⟨_, rfl, by rw [ek, hkk]; rfl, rfl, g4⟩
      · cases hv : lnV n W p (sgE e i) (e i)
        · exact ⟨_, rfl, by rw [ek, hkk, hv]; rfl, rfl, fun z hz => (z2 z hz).trans (g4 z hz)⟩
        · exact ⟨_, rfl, by rw [ek, hkk, hv]; rfl, rfl, fun z hz => (z2 z hz).trans (g4 z hz)⟩
    · obtain ⟨q1, q2, M'⟩ := q
      obtain ⟨rfl, rfl, g4⟩ := hq
      dsimp only at g4
      refine ⟨M', ?_, fun z z1 z2 => by rw [g4 z z2, rs_ne z1]⟩
      show f_X12_byLaw_16 kind (nI p) (lawK n W kind p m) (nI m) M' = _
      unfold f_X12_byLaw_16
      rw [show ix (424 : Int32) = 424 from rfl, g4 216 (by decide), rs_ne (by decide), h216, c2, i_lee, cond_true]
  · refine ⟨M, ?_, fun _ _ _ => rfl⟩
    rw [Bool.not_true, cond_false, cond_true]
    unfold f_X12_withoutText untV
    rw [show (4 : Int32) = nI 4 from rfl, m_of (by omega) (by decide), b1_s, m_holds (by omega), b1_s, b1_s, h216]
    rcases hk with rfl | rfl | rfl <;> cases hoB W p <;> rfl
theorem lawK_nI {W : Nat → Int32} {M : mM} {o : Nat} (h : LW W M o) (h2 : W 2 ≠ 0) {kind : Int32} {p : Nat} : ∀ m, m ≤ ix (W 424) → ∃ x, x ≤ 100 * m ∧ lawK n W kind p m = nI x := by
  obtain ⟨-, m', hm, c1, c2, e, T, h⟩ := h.ln h2
  rw [c2, i_ix (by omega)]
  intro m
  induction m with
  | zero => intro _; exact ⟨0, by omega, rfl⟩
  | succ m ih =>
    intro hmm
    obtain ⟨x, hx, e1⟩ := ih (by omega)
    obtain ⟨-, ⟨a, ha, a1, a2⟩, -⟩ := h m (by omega)
    show ∃ x, x ≤ 100 * (m + 1) ∧ (bif decide (W (425 + 4 * m) = kind) && lnV n W p (ix (W (427 + 4 * m))) (ix (W (428 + 4 * m))) then lawK n W kind p m + W (426 + 4 * m) else lawK n W kind p m) = nI x
    cases decide (W (425 + 4 * m) = kind) && lnV n W p (ix (W (427 + 4 * m))) (ix (W (428 + 4 * m)))
    · exact ⟨x, by omega, e1⟩
    · exact ⟨x + a, by omega, by rw [cond_true, e1, a2, nI_add]⟩
theorem lawV_nI {W : Nat → Int32} (hw : WF n W) {M : mM} {o : Nat} (h : LW W M o) {kind : Int32} {p : Nat} (hp : p < n) : ∃ x, x ≤ 1200 ∧ lawV n W kind p = nI x := by
  unfold lawV
  cases h2 : decide (W 2 = 0)
  · obtain ⟨x, h1, e⟩ := lawK_nI (n := n) h (of_decide_eq_false h2) (kind := kind) (p := p) _ (Nat.le_refl _)
    obtain ⟨-, m', hm, c1, c2, -⟩ := h.ln (of_decide_eq_false h2)
    rw [c2, i_ix (by omega)] at h1
    exact ⟨x, by omega, e⟩
  · rw [cond_true]
    unfold untV
    cases decide (kind = 0)
    · rw [cond_false]
      cases decide (kind = 2)
      · rw [cond_false]
        cases hoB W p
        · exact ⟨10, by omega, rfl⟩
        · exact ⟨0, by omega, rfl⟩
      · obtain ⟨-, -, -, x, hx, e⟩ := hw.2.2.2.1 p hp
        exact ⟨x, by omega, e⟩
    · rw [cond_true]
      cases hoB W p
      · exact ⟨0, by omega, rfl⟩
      · exact ⟨5, by omega, rfl⟩
end
