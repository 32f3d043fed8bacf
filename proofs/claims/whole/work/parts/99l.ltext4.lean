/-! texts of a law: lines -/
def lnP (D : Nat → Int32) (X : mM) (e : Nat → Nat) (T : Nat → List Bool) (i : Nat) : Prop :=
  (∃ k, k ≤ 2 ∧ X (23 + 1) i = nI k ∧ D (425 + 4 * i) = nI k) ∧ (∃ a, a ≤ 100 ∧ X (23 + 2) i = nI a ∧ D (426 + 4 * i) = nI a) ∧ X (23 + 3) i = nI (e i) ∧ D (427 + 4 * i) = nI (sgE e i) ∧ D (428 + 4 * i) = nI (e i) ∧ sgE e i ≤ e i ∧ e i ≤ 400 ∧
  T (sgE e i) = [] ∧ ∀ j, sgE e i ≤ j → j < e i → CR (X (23 + 4) j) (D (473 + 2 * j)) (D (474 + 2 * j)) ∧ (T j).length ≤ 60 ∧ (j + 1 < e i → tyS (D (473 + 2 * j)) (T j) (T (j + 1))) ∧ (j + 1 = e i → tyS (D (473 + 2 * j)) (T j) [true])
def DL (X Y : mM) (l c : Nat) : Prop := X 23 0 = 1 ∧ X 23 1 = nI l ∧ X 23 6 = nI c ∧ Y 215 20 = nI c ∧ ∃ e T, sgE e l = c ∧ ∀ i, i < l → lnP (fun k => Y 216 (849 + k)) X e T i
theorem DL.le {D : Nat → Int32} {X : mM} {e : Nat → Nat} {T : Nat → List Bool} {l : Nat} (h : ∀ i, i < l → lnP D X e T i) {i : Nat} (hi : i < l) : e i ≤ sgE e l := by
  have : ∀ k, i + k < l → e i ≤ e (i + k) := fun k => by
    induction k with
    | zero => exact fun _ => Nat.le_refl _
    | succ k ih =>
      intro hk
      have h1 := (h (i + (k + 1)) hk).2.2.2.2.2.1
      exact Nat.le_trans (ih (by omega)) h1
  obtain ⟨k, rfl⟩ : ∃ k, l = i + k + 1 := ⟨l - i - 1, by omega⟩
  exact this k (by omega)
theorem DL.nx {X Y X2 Y2 : mM} {l c c' kd am : Nat} (h : DL X Y l c) (hl : l < 12) (hcc : c ≤ c') (h400 : c' ≤ 400) (hkd : kd ≤ 2) (ham : am ≤ 100)
    (f : ∀ z, 24 ≤ z → z ≤ 26 → ∀ i, i < l → X2 z i = X z i) (f27 : ∀ j, j < c → X2 27 j = X 27 j) (g1 : ∀ k, 1274 ≤ k → k < 1274 + 4 * l → Y2 216 k = Y 216 k) (g2 : ∀ k, 1322 ≤ k → k < 1322 + 2 * c → Y2 216 k = Y 216 k)
    (n1 : X2 24 l = nI kd) (n2 : X2 25 l = nI am) (n3 : X2 26 l = nI c') (n4 : Y2 216 (1274 + 4 * l) = nI kd) (n5 : Y2 216 (1275 + 4 * l) = nI am) (n6 : Y2 216 (1276 + 4 * l) = nI c) (n7 : Y2 216 (1277 + 4 * l) = nI c')
    (x0 : X2 23 0 = 1) (x1 : X2 23 1 = nI (l + 1)) (x6 : X2 23 6 = nI c') (y20 : Y2 215 20 = nI c')
    (hn : ∃ T1 : Nat → List Bool, T1 c = [] ∧ ∀ j, c ≤ j → j < c' → CR (X2 27 j) (Y2 216 (1322 + 2 * j)) (Y2 216 (1323 + 2 * j)) ∧ (T1 j).length ≤ 60 ∧ (j + 1 < c' → tyS (Y2 216 (1322 + 2 * j)) (T1 j) (T1 (j + 1))) ∧ (j + 1 = c' → tyS (Y2 216 (1322 + 2 * j)) (T1 j) [true])) : DL X2 Y2 (l + 1) c' := by
  obtain ⟨-, -, -, -, e, T, hs, hi⟩ := h
  obtain ⟨T1, t0, t1⟩ := hn
  have es : ∀ i, i ≤ l → sgE (fun i => if i < l then e i else c') i = sgE e i := fun i hi => by
    match i with
    | 0 => rfl
    | i + 1 => exact if_pos (show i < l by omega)
  refine ⟨x0, x1, x6, y20, fun i => if i < l then e i else c', fun j => if j < c then T j else T1 j, if_neg (Nat.lt_irrefl l), fun i hil => ?_⟩
  by_cases el : i < l
  · obtain ⟨⟨k, k1, k2, k3⟩, ⟨a, a1, a2, a3⟩, b1, b2, b3, b4, b5, b6, b7⟩ := hi i el
    have hle : e i ≤ c := by rw [← hs]; exact DL.le hi el
    have e1 : (fun i => if i < l then e i else c') i = e i := if_pos el
    have gg : ∀ k, 425 + 4 * 0 ≤ k → k ≤ 428 + 4 * i → Y2 216 (849 + k) = Y 216 (849 + k) := fun k h1 h2 => g1 _ (by omega) (by omega)
    refine ⟨⟨k, k1, by rw [f _ (by omega) (by omega) i el]; exact k2, ?_⟩, ⟨a, a1, by rw [f _ (by omega) (by omega) i el]; exact a2, ?_⟩, ?_, ?_, ?_, ?_, ?_, ?_, fun j j1 j2 => ?_⟩
    · exact (gg _ (by omega) (by omega)).trans k3
    · exact (gg _ (by omega) (by omega)).trans a3
    · rw [f _ (by omega) (by omega) i el, e1]; exact b1
    · rw [es i (by omega)]; exact (gg _ (by omega) (by omega)).trans b2
    · rw [e1]; exact (gg _ (by omega) (by omega)).trans b3
    · rw [es i (by omega), e1]; exact b4
    · rw [e1]; exact b5
    · rw [es i (by omega)]
      dsimp only
      by_cases ec : sgE e i < c
      · rw [if_pos ec]; exact b6
      · rw [if_neg ec, show sgE e i = c by omega]; exact t0
    · rw [es i (by omega)] at j1
      rw [e1] at j2 ⊢
      obtain ⟨c1, c2, c3, c4⟩ := b7 j j1 j2
      have d1 : (fun k => Y2 216 (849 + k)) (473 + 2 * j) = Y 216 (849 + (473 + 2 * j)) := g2 _ (by omega) (by omega)
      have d2 : (fun k => Y2 216 (849 + k)) (474 + 2 * j) = Y 216 (849 + (474 + 2 * j)) := g2 _ (by omega) (by omega)
      rw [d1, d2, show X2 (23 + 4) j = X (23 + 4) j from f27 j (by omega)]
      dsimp only
      rw [if_pos (show j < c by omega)]
      refine ⟨c1, c2, fun hj => ?_, c4⟩
      rw [if_pos (show j + 1 < c by omega)]
      exact c3 hj
  · have ei : i = l := by omega
    subst ei
    have e1 : (fun j => if j < i then e j else c') i = c' := if_neg el
    refine ⟨⟨kd, hkd, n1, ?_⟩, ⟨am, ham, n2, ?_⟩, ?_, ?_, ?_, ?_, ?_, ?_, fun j j1 j2 => ?_⟩
    · exact (congrArg (Y2 216) (show 849 + (425 + 4 * i) = 1274 + 4 * i by omega)).trans n4
    · exact (congrArg (Y2 216) (show 849 + (426 + 4 * i) = 1275 + 4 * i by omega)).trans n5
    · rw [e1]; exact n3
    · rw [es i (Nat.le_refl _), hs]
      exact (congrArg (Y2 216) (show 849 + (427 + 4 * i) = 1276 + 4 * i by omega)).trans n6
    · rw [e1]
      exact (congrArg (Y2 216) (show 849 + (428 + 4 * i) = 1277 + 4 * i by omega)).trans n7
    · rw [es i (Nat.le_refl _), hs, e1]; exact hcc
    · rw [e1]; exact h400
    · rw [es i (Nat.le_refl _), hs]
      exact (if_neg (Nat.lt_irrefl c)).trans t0
    · rw [es i (Nat.le_refl _), hs] at j1
      rw [e1] at j2 ⊢
      obtain ⟨c1, c2, c3, c4⟩ := t1 j j1 j2
      have d1 : (fun k => Y2 216 (849 + k)) (473 + 2 * j) = Y2 216 (1322 + 2 * j) := congrArg (Y2 216) (by omega)
      have d2 : (fun k => Y2 216 (849 + k)) (474 + 2 * j) = Y2 216 (1323 + 2 * j) := congrArg (Y2 216) (by omega)
      rw [d1, d2]
      dsimp only
      rw [if_neg (show ¬ j < c by omega), if_neg (show ¬ j + 1 < c by omega)]
      exact ⟨c1, c2, c3, c4⟩
theorem NC.ty {X Y : mM} {c c' : Nat} (h : NC X Y c c' [] [true]) : ∃ T1 : Nat → List Bool, T1 c = [] ∧ ∀ j, c ≤ j → j < c' → CR (X 27 j) (Y 216 (1322 + 2 * j)) (Y 216 (1323 + 2 * j)) ∧ (T1 j).length ≤ 60 ∧ (j + 1 < c' → tyS (Y 216 (1322 + 2 * j)) (T1 j) (T1 (j + 1))) ∧ (j + 1 = c' → tyS (Y 216 (1322 + 2 * j)) (T1 j) [true]) := by
  obtain ⟨T, h1, h2, h3⟩ := h
  refine ⟨T, h1, fun j a b => ?_⟩
  obtain ⟨g1, g2, g3⟩ := h3 j a b
  exact ⟨g1, g3, fun _ => g2, fun e => by rw [← h2, ← e]; exact g2⟩
section
variable {L : Nat} {B : Nat → Nat} {X Y : mM} {p c l : Nat}
def RsN (L : Nat) (B : Nat → Nat) (X Y : mM) (l : Nat) (cr mr : Option (Bool × mM)) : Prop := (∃ X' Y' p' c', cr = some (true, X') ∧ mr = some (true, Y') ∧ p' ≤ L ∧ c' ≤ p' ∧ tC X' L B (sB L B p') ∧ tM Y' L B p' ∧ DL X' Y' (l + 1) c' ∧ hC4 X X' ∧ hM4 Y Y') ∨ (∃ X' Y', cr = some (false, X') ∧ mr = some (false, Y') ∧ NoK L X Y X' Y')
theorem C_endL {X : mM} {a b : Int32} {l c : Nat} (hl : l < 12) (h1 : X 23 1 = nI l) (h6 : X 23 6 = nI c) : f_X0_endLine 23 a b X = some ((), mst (mst (mst (mst X 24 l a) 25 l b) 26 l (nI c)) 23 1 (nI (l + 1))) := by
  unfold f_X0_endLine
  have e1 : ∀ (Z : mM) (z k : Nat) (v : Int32), z ≠ 23 → Z 23 1 = nI l → mst Z z k v 23 1 = nI l := fun Z z k v hz h => by rw [mst_no (Ne.symm hz)]; exact h
  have q1 := e1 X 24 l a (by decide) h1
  have q2 := e1 (mst X 24 l a) 25 l b (by decide) q1
  have q3 := e1 (mst (mst X 24 l a) 25 l b) 26 l (nI c) (by decide) q2
  have q6 : mst (mst X 24 l a) 25 l b 23 6 = nI c := by rw [mst_no (by decide), mst_no (by decide)]; exact h6
  rw [gd_t (show mLwB 23 = true by decide), h1, decide_eq_false (nI_pos (show l < 2 ^ 31 by omega)), cond_false, show decide ((12 : Int32) ≤ nI l) = false from i_lit (a := 12) (by decide) hl, cond_false, gd_t (i_in hl (by decide)), wr_e, i_ix (by omega)]
  rw [show mst X (23 + 1) l a = mst X 24 l a from rfl, q1, gd_t (i_in hl (by decide)), wr_e, i_ix (by omega)]
  rw [show mst (mst X 24 l a) (23 + 2) l b = mst (mst X 24 l a) 25 l b from rfl, q2, gd_t (i_in hl (by decide)), wr_e, i_ix (by omega), q6]
  rw [show mst (mst (mst X 24 l a) 25 l b) (23 + 3) l (nI c) = mst (mst (mst X 24 l a) 25 l b) 26 l (nI c) from rfl, q3, wr_e, i_1]
theorem k_line (hT : txt L B) (hl : l < 12) (hp : p ≤ L) (hcp : c ≤ p) (hX : tC X L B (sB L B p)) (hY : tM Y L B p) (hD : DL X Y l c) : RsN L B X Y l (f_X1_readLine 23 X) (f_X12_readLine false (nI l) Y) := by
  have hL := hT.1
  obtain ⟨s1, s2⟩ := sB_le (B := B) hp
  obtain ⟨Y1, y1, y2, y3, y4⟩ := M_letters hT hY hp
  have k2 := okw (o := 412) (by decide) (by decide) (by decide)
  have k3 := okw (o := 413) (by decide) (by decide) (by decide)
  have k4 := okw (o := 414) (by decide) (by decide) (by decide)
  have k5 := okw (o := 415) (by decide) (by decide) (by decide)
  obtain ⟨D0, D1, D6, D20, -⟩ := id hD
  have el : (1274 : Int32) + (4 : Int32) * nI l = nI (1274 + 4 * l) := by
    rw [show (4 : Int32) = nI 4 from rfl, show (1274 : Int32) = nI 1274 from rfl, pk_mul, nI_add]
  have hm : f_X12_readLine false (nI l) Y = f_X12_readLawLine (nI l) Y1 := by
    unfold f_X12_readLine f_X12_readLine_8
    rw [y1, b2_s, cond_false, show decide ((12 : Int32) ≤ nI l) = false from i_lit (a := 12) (by decide) hl, cond_false, cond_false]
    cases f_X12_readLawLine (nI l) Y1 with
    | none => rfl
    | some r => obtain ⟨b, Z⟩ := r; cases b <;> rfl
  rw [hm]
  have a1 : (nI (1274 + 4 * l)) + (1 : Int32) = nI (1275 + 4 * l) := by rw [i_1]; congr 1; omega
  have a2 : (nI (1274 + 4 * l)) + (2 : Int32) = nI (1276 + 4 * l) := by rw [show (2 : Int32) = nI 2 from rfl, nI_add]; congr 1; omega
  have a3 : (nI (1274 + 4 * l)) + (3 : Int32) = nI (1277 + 4 * l) := by rw [show (3 : Int32) = nI 3 from rfl, nI_add]; congr 1; omega
  have hit : ∀ (o kd : Nat) (s : Int32) (X1 : mM), kd ≤ 2 → s = nI kd → isW L B (sB L B p) (mTt o) = true → okT (mTt o) = true → sB L B p + (mTt o).length ≤ L → tC X1 L B (sB L B (sB L B p + (mTt o).length)) → fC X X1 → RsN L B X Y l (f_X1_readLine_19 23 s X1) (f_X12_readLawLine_28 (nI (1274 + 4 * l)) (nI (1274 + 4 * l)) s Y1) := fun o kd s X1 hkd hs cw hw hle hX1 hf => by
    subst hs
    have hol := okT_l hw
    have y2' := y2
    rw [wL_of cw] at y2'
    have b0 : mst Y1 216 (1274 + 4 * l) (nI kd) 216 (1274 + 4 * l) = nI kd := mst_oo _ _ _ _
    unfold f_X1_readLine_19 f_X12_readLawLine_28
    rw [nm1' (by omega), cond_true, gd_t (i_in (by omega) (by decide)), wr_e, gd_t (i_in (by omega) (by decide)), i_ix (by omega), b0, i_0le (by omega), cond_true]
    have fy : hM4 Y (mst Y1 216 (1274 + 4 * l) (nI kd)) := y4.w.tr ⟨fun z _ h => mst_no h, fun k _ _ _ _ => by rw [mst_no (by decide)], fun k hk => mst_nk (by omega)⟩
    have ty : tM (mst Y1 216 (1274 + 4 * l) (nI kd)) L B (sB L B p + (mTt o).length) := y2'.cg (mst_no (by decide)) (mst_no (by decide))
    rcases nmB hT hle hX1 ty (lo := 0) (hi := 100) with ⟨X2, Y2, v, q, n1, n2, n3, n4, n5, n6, n7, n8, n9, n10, n11, n12⟩ | ⟨X2, Y2, n1, n2, n3, n4, n5, n6⟩
    · have hv : v ≤ 100 := in_hi (hi := 100) (by omega) (by decide) n10
      have e216 : Y2 216 = mst Y1 216 (1274 + 4 * l) (nI kd) 216 := n12.1 216 (by decide)
      have e20 : Y2 215 20 = nI c := by rw [n12.2 20 (by decide) (by decide), mst_no (by decide), y4.2 20 (by decide) (by decide)]; exact D20
      have b1 : mst Y2 216 (1275 + 4 * l) (nI v) 216 (1275 + 4 * l) = nI v := mst_oo _ _ _ _
      rw [n1, b2_s, nm1' (by omega), cond_true, n2, b2_s, a1, gd_t (i_in (by omega) (by decide)), wr_e, gd_t (i_in (by omega) (by decide)), i_ix (by omega), b1, i_0le (by omega), cond_true, a2, gd_t (i_in (by omega) (by decide)), wr_e, i_ix (by omega), wr_e, mst_no (show 215 ≠ 216 by decide), e20]
      have w4 : ∀ k, (k < 1274 + 4 * l ∨ 1277 + 4 * l ≤ k) → mst (mst (mst Y2 216 (1275 + 4 * l) (nI v)) 216 (1276 + 4 * l) (nI c)) 215 17 0 216 k = Y 216 k := fun k hk => by
        rw [mst_no (by decide), mst_nk (by omega), mst_nk (by omega), e216, mst_nk (by omega), y4.1 216 (by decide)]
      have w5 : ∀ z, z ≠ 215 → z ≠ 216 → mst (mst (mst Y2 216 (1275 + 4 * l) (nI v)) 216 (1276 + 4 * l) (nI c)) 215 17 0 z = Y z := fun z z1 z2 => by
        rw [mst_no z1, mst_no z2, mst_no z2, n12.1 z z1, mst_no z2, y4.1 z z1]
      have w6 : ∀ k, k ≠ 17 → mst (mst (mst Y2 216 (1275 + 4 * l) (nI v)) 216 (1276 + 4 * l) (nI c)) 215 17 0 215 k = Y2 215 k := fun k hk => by rw [mst_nk hk, mst_no (by decide), mst_no (by decide)]
      have w7 : mst (mst (mst Y2 216 (1275 + 4 * l) (nI v)) 216 (1276 + 4 * l) (nI c)) 215 17 0 215 17 = nI 0 := mst_oo _ _ _ _
      have w1 : mst (mst (mst Y2 216 (1275 + 4 * l) (nI v)) 216 (1276 + 4 * l) (nI c)) 215 17 0 216 (1274 + 4 * l) = nI kd := by rw [mst_no (by decide), mst_nk (by omega), mst_nk (by omega), e216, mst_oo]
      have w2 : mst (mst (mst Y2 216 (1275 + 4 * l) (nI v)) 216 (1276 + 4 * l) (nI c)) 215 17 0 216 (1275 + 4 * l) = nI v := by rw [mst_no (by decide), mst_nk (by omega), mst_oo]
      have w3 : mst (mst (mst Y2 216 (1275 + 4 * l) (nI v)) 216 (1276 + 4 * l) (nI c)) 215 17 0 216 (1276 + 4 * l) = nI c := by rw [mst_no (by decide), mst_oo]
      generalize mst (mst (mst Y2 216 (1275 + 4 * l) (nI v)) 216 (1276 + 4 * l) (nI c)) 215 17 0 = Y3 at w1 w2 w3 w4 w5 w6 w7 ⊢
      have t3 : tM Y3 L B q := ⟨by rw [w6 _ (by decide)]; exact n6.1, fun i hi => by rw [w5 223 (by decide) (by decide), ← y4.1 223 (by decide), ← show mst Y1 216 (1274 + 4 * l) (nI kd) 223 = Y1 223 from mst_no (by decide), ← n12.1 223 (by decide)]; exact n6.2.1 i hi, by rw [w6 _ (by decide)]; exact n6.2.2⟩
      have f3 : hM4 Y Y3 := ⟨w5, fun k k1 k2 k3 k4 => by rw [w6 k k3, n12.2 k k1 k2, mst_no (by decide), y4.2 k k1 k2], fun k hk => w4 k (by omega)⟩
      have fX2 : fC X X2 := hf.tr n11
      -- the line's end, by both
      have fin : ∀ (X5 Y5 : mM) (q5 c5 : Nat), c ≤ c5 → c5 ≤ q5 → q5 ≤ L → tC X5 L B (sB L B q5) → tM Y5 L B q5 → X5 23 6 = nI c5 → Y5 215 20 = nI c5 → hC3 c X2 X5 → hM3 c Y3 Y5 → (∃ T1 : Nat → List Bool, T1 c = [] ∧ ∀ j, c ≤ j → j < c5 → CR (X5 27 j) (Y5 216 (1322 + 2 * j)) (Y5 216 (1323 + 2 * j)) ∧ (T1 j).length ≤ 60 ∧ (j + 1 < c5 → tyS (Y5 216 (1322 + 2 * j)) (T1 j) (T1 (j + 1))) ∧ (j + 1 = c5 → tyS (Y5 216 (1322 + 2 * j)) (T1 j) [true])) → RsN L B X Y l (f_X1_readLine_49 23 (nI kd) (nI v) X5) (f_X12_readLawLine_75 (nI (1274 + 4 * l)) Y5) := fun X5 Y5 q5 c5 hc1 hc2 hc3 tX5 tY5 x6 y20 fx fy5 hty => by
        have x1 : X5 23 1 = nI l := by rw [fx.2.2.1 1 (by decide), fX2.1 23 (by decide)]; exact D1
        have m75 : f_X12_readLawLine_75 (nI (1274 + 4 * l)) Y5 = some (true, mst Y5 216 (1277 + 4 * l) (nI c5)) := by
          unfold f_X12_readLawLine_75
          rw [a3, gd_t (i_in (by omega) (by decide)), wr_e, i_ix (by omega), y20]
        unfold f_X1_readLine_49
        rw [C_endL hl x1 x6, b2_s, m75]
        have h0 : ∀ z, z ≠ 23 → z ≠ 24 → z ≠ 25 → z ≠ 26 → mst (mst (mst (mst X5 24 l (nI kd)) 25 l (nI v)) 26 l (nI c5)) 23 1 (nI (l + 1)) z = X5 z := fun z z1 z2 z3 z4 => by rw [mst_no z1, mst_no z4, mst_no z3, mst_no z2]
        have h23 : ∀ k, k ≠ 1 → mst (mst (mst (mst X5 24 l (nI kd)) 25 l (nI v)) 26 l (nI c5)) 23 1 (nI (l + 1)) 23 k = X5 23 k := fun k hk => by rw [mst_nk hk, mst_no (by decide), mst_no (by decide), mst_no (by decide)]
        have hX5 : ∀ z, z ≠ 1 → z ≠ 23 → z ≠ 27 → X5 z = X z := fun z z1 z2 z3 => by rw [fx.1 z z1 z2 z3, fX2.1 z z1]
        have hY5 : ∀ k, k < 1322 + 2 * c → (k < 1274 + 4 * l ∨ 1277 + 4 * l ≤ k) → Y5 216 k = Y 216 k := fun k k1 k2 => by rw [fy5.2.2 k k1, w4 k k2]
        refine Or.inl ⟨_, _, q5, c5, rfl, rfl, hc3, hc2, tX5.cg (h0 1 (by decide) (by decide) (by decide) (by decide)) (h0 2 (by decide) (by decide) (by decide) (by decide)), tY5.cg (mst_no (by decide)) (mst_no (by decide)), hD.nx hl hc1 (by omega) hkd hv (fun z z1 z2 i hi => ?_) (fun j hj => ?_) (fun k k1 k2 => ?_) (fun k k1 k2 => ?_) ?_ ?_ ?_ ?_ ?_ ?_ ?_ ?_ ?_ ?_ ?_ ?_, ⟨fun z z1 z2 => ?_, ?_⟩, ⟨fun z z1 z2 => ?_, fun k k1 k2 k3 k4 => ?_, fun k hk => ?_⟩⟩
        · rw [mst_no (by omega), ← hX5 z (by omega) (by omega) (by omega)]
          have : ∀ (Z : mM) (z' : Nat) (v' : Int32), mst Z z' l v' z i = Z z i := fun Z z' v' => by
            by_cases e : z = z'
            · subst e; exact mst_nk (by omega)
            · rw [mst_no e]
          rw [this, this, this]
        · rw [h0 27 (by decide) (by decide) (by decide) (by decide), fx.2.2.2 j hj, fX2.1 27 (by decide)]
        · rw [mst_nk (by omega)]; exact hY5 k (by omega) (by omega)
        · rw [mst_nk (by omega)]; exact hY5 k (by omega) (by omega)
        · rw [mst_no (by decide), mst_no (by decide), mst_no (by decide), mst_oo]
        · rw [mst_no (by decide), mst_no (by decide), mst_oo]
        · rw [mst_no (by decide), mst_oo]
        · rw [mst_nk (by omega), fy5.2.2 _ (by omega)]; exact w1
        · rw [mst_nk (by omega), fy5.2.2 _ (by omega)]; exact w2
        · rw [mst_nk (by omega), fy5.2.2 _ (by omega)]; exact w3
        · exact mst_oo _ _ _ _
        · rw [h23 0 (by decide), fx.2.2.1 0 (by decide), fX2.1 23 (by decide)]; exact D0
        · exact mst_oo _ _ _ _
        · rw [h23 6 (by decide)]; exact x6
        · rw [mst_no (by decide)]; exact y20
        · rw [h0 27 (by decide) (by decide) (by decide) (by decide)]
          obtain ⟨T1, q1, q2⟩ := hty
          refine ⟨T1, q1, fun j j1 j2 => ?_⟩
          rw [mst_nk (by omega), mst_nk (by omega)]
          exact q2 j j1 j2
        · rw [h0 z (by omega) (by omega) (by omega) (by omega)]; exact hX5 z z1 (by omega) (by omega)
        · rw [h0 1 (by decide) (by decide) (by decide) (by decide), fx.2.1]; exact fX2.2
        · rw [mst_no z2, fy5.1 z z1 z2]; exact w5 z z1 z2
        · rw [mst_no (by decide), fy5.2.1 k k1 k2 k3 k4]; exact f3.2.1 k k1 k2 k3 k4
        · rw [mst_nk (by omega)]; exact hY5 k (by omega) (by omega)
      rcases tk_word hT n4 n5 t3 k5 with ⟨-, X4, Y4, q4, u1, u2, u3, u4, u5, u6, u7, u8, u9⟩ | ⟨-, Y4, u1, u2, u3, u4, u9⟩
      · rw [u1, b2_s, cond_true, u2, b2_s, cond_true]
        have st : StK L B X4 Y4 q4 c 0 := ⟨u4, by omega, u5, u6, by rw [u7.1 23 (by decide), fX2.1 23 (by decide)]; exact D6, by rw [u8.2 20 (by decide) (by decide), w6 20 (by decide)]; exact e20, by rw [u8.2 17 (by decide) (by decide)]; exact w7⟩
        rcases k_cond hT 40 0 0 X4 Y4 q4 c [] (by decide) (by decide) (by decide) (by decide) st with ⟨X5, Y5, q5, c5, r1, r2, r3⟩ | ⟨X5, Y5, r1, r2, r3⟩
        · rw [show fp_C 40 0 23 0 X4 = _ from r1, b2_s, cond_true, r2, b2_s, cond_true]
          obtain ⟨st5, z1, z2, z3, z4, z5, z6⟩ := r3
          exact fin X5 Y5 q5 c5 z2 (by have := st5.2.1; omega) st5.1 st5.2.2.1 st5.2.2.2.1 st5.2.2.2.2.1 st5.2.2.2.2.2.1 ((u7.k c).tr z5 (Nat.le_refl _)) ((u8.k c).tr z6 (Nat.le_refl _)) z4.ty
        · rw [show fp_C 40 0 23 0 X4 = _ from r1, b2_s, cond_false, r2, b2_s, cond_false]
          obtain ⟨w, j1, j2, j3, j4, j5⟩ := r3
          exact Or.inr ⟨X5, Y5, rfl, rfl, w, j1, j2, j3, (fX2.tr u7).w.tr j4, (f3.tr u8.w).tr j5⟩
      · rw [u1, b2_s, cond_false, u2, b2_s, cond_false]
        obtain ⟨z1, z2⟩ := sB_le (B := B) n4
        exact fin X2 Y4 (sB L B q) c (Nat.le_refl _) (by omega) z2 n5.ss u3 (by rw [fX2.1 23 (by decide)]; exact D6) (by rw [u4.2 20 (by decide) (by decide), w6 20 (by decide)]; exact e20) (fC.rf.k c) (u4.k c) ⟨fun _ => [], rfl, fun j j1 j2 => absurd j2 (by omega)⟩
    · have b1 : mst Y2 216 (1275 + 4 * l) (-1) 216 (1275 + 4 * l) = (-1 : Int32) := mst_oo _ _ _ _
      rw [n1, b2_s, show decide (¬ (-1 : Int32) = (-1 : Int32)) = false from rfl, cond_false, n2, b2_s, a1, gd_t (i_in (by omega) (by decide)), wr_e, gd_t (i_in (by omega) (by decide)), i_ix (by omega), b1, show decide ((0 : Int32) ≤ -1) = false from rfl, cond_false]
      exact Or.inr ⟨X2, _, rfl, rfl, NoK.mk (sB_le hle).2 n3 (by rw [mst_no (by decide)]; exact n4) (hf.tr n5).w ((fy.tr n6.w).tr ⟨fun z _ h => mst_no h, fun k _ _ _ _ => by rw [mst_no (by decide)], fun k hk => mst_nk (by omega)⟩)⟩
  unfold f_X1_readLine f_X12_readLawLine
  rw [gd_t (show mLwB 23 = true by decide), M_isWord hT hp y2 y3 k2.1 k2.2, b1_s, el]
  obtain ⟨w2, v2⟩ := C_takes hT hX s2 k2.1 k2.2
  cases c2 : isW L B (sB L B p) (mTt 412)
  · rw [v2 c2, b2_s, cond_false, cond_false, M_isWord hT hp y2 y3 k3.1 k3.2, b1_s]
    obtain ⟨w3, v3⟩ := C_takes hT hX s2 k3.1 k3.2
    cases c3 : isW L B (sB L B p) (mTt 413)
    · rw [v3 c3, b2_s, cond_false, cond_false, M_isWord hT hp y2 y3 k4.1 k4.2, b1_s]
      obtain ⟨w4, v4⟩ := C_takes hT hX s2 k4.1 k4.2
      cases c4 : isW L B (sB L B p) (mTt 414)
      · rw [v4 c4, b2_s, cond_false, cond_false]
        have b0 : mst Y1 216 (1274 + 4 * l) (-1) 216 (1274 + 4 * l) = (-1 : Int32) := mst_oo _ _ _ _
        unfold f_X1_readLine_19 f_X12_readLawLine_28
        rw [show decide (¬ (-1 : Int32) = (-1 : Int32)) = false from rfl, cond_false, hX.2.2.1, C_wrong hX.2.2.2, b2_s, gd_t (i_in (by omega) (by decide)), wr_e, gd_t (i_in (by omega) (by decide)), i_ix (by omega), b0, show decide ((0 : Int32) ≤ -1) = false from rfl, cond_false]
        exact Or.inr ⟨_, _, rfl, rfl, NoK.mk s2 (mst_oo _ _ _ _) (by rw [mst_no (by decide)]; exact y3) (fC.w (fC.st (by decide))) (y4.w.tr ⟨fun z _ h => mst_no h, fun k _ _ _ _ => by rw [mst_no (by decide)], fun k hk => mst_nk (by omega)⟩)⟩
      · obtain ⟨l1, X', x1, x2, x3⟩ := w4 c4
        rw [x1, b2_s, cond_true, cond_true]
        exact hit 414 2 _ X' (by decide) rfl c4 k4.2 l1 x2 x3
    · obtain ⟨l1, X', x1, x2, x3⟩ := w3 c3
      rw [x1, b2_s, cond_true, cond_true]
      exact hit 413 1 _ X' (by decide) rfl c3 k3.2 l1 x2 x3
  · obtain ⟨l1, X', x1, x2, x3⟩ := w2 c2
    rw [x1, b2_s, cond_true, cond_true]
    exact hit 412 0 _ X' (by decide) rfl c2 k2.2 l1 x2 x3
end
