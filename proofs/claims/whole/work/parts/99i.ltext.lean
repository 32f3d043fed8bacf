/-! texts of a law: what is kept, what is emitted -/
def hC3 (c : Nat) (X X' : mM) : Prop := (∀ z, z ≠ 1 → z ≠ 23 → z ≠ 27 → X' z = X z) ∧ X' 1 1 = X 1 1 ∧ (∀ k, k ≠ 6 → X' 23 k = X 23 k) ∧ ∀ j, j < c → X' 27 j = X 27 j
def hM3 (c : Nat) (Y Y' : mM) : Prop := (∀ z, z ≠ 215 → z ≠ 216 → Y' z = Y z) ∧ (∀ k, k ≠ 14 → k ≠ 16 → k ≠ 17 → k ≠ 20 → Y' 215 k = Y 215 k) ∧ ∀ k, k < 1322 + 2 * c → Y' 216 k = Y 216 k
def hC4 (X X' : mM) : Prop := (∀ z, z ≠ 1 → (z < 23 ∨ 27 < z) → X' z = X z) ∧ X' 1 1 = X 1 1
def hM4 (Y Y' : mM) : Prop := (∀ z, z ≠ 215 → z ≠ 216 → Y' z = Y z) ∧ (∀ k, k ≠ 14 → k ≠ 16 → k ≠ 17 → k ≠ 20 → Y' 215 k = Y 215 k) ∧ ∀ k, k < 1273 → Y' 216 k = Y 216 k
theorem hC3.tr {c c' : Nat} {X Y Z : mM} (h : hC3 c X Y) (h' : hC3 c' Y Z) (hc : c ≤ c') : hC3 c X Z := ⟨fun z a b d => (h'.1 z a b d).trans (h.1 z a b d), h'.2.1.trans h.2.1, fun k hk => (h'.2.2.1 k hk).trans (h.2.2.1 k hk), fun j hj => (h'.2.2.2 j (Nat.lt_of_lt_of_le hj hc)).trans (h.2.2.2 j hj)⟩
theorem hM3.tr {c c' : Nat} {X Y Z : mM} (h : hM3 c X Y) (h' : hM3 c' Y Z) (hc : c ≤ c') : hM3 c X Z := ⟨fun z a b => (h'.1 z a b).trans (h.1 z a b), fun k a b d e => (h'.2.1 k a b d e).trans (h.2.1 k a b d e), fun k hk => (h'.2.2 k (by omega)).trans (h.2.2 k hk)⟩
theorem hC4.tr {X Y Z : mM} (h : hC4 X Y) (h' : hC4 Y Z) : hC4 X Z := ⟨fun z a b => (h'.1 z a b).trans (h.1 z a b), h'.2.trans h.2⟩
theorem hM4.tr {X Y Z : mM} (h : hM4 X Y) (h' : hM4 Y Z) : hM4 X Z := ⟨fun z a b => (h'.1 z a b).trans (h.1 z a b), fun k a b d e => (h'.2.1 k a b d e).trans (h.2.1 k a b d e), fun k hk => (h'.2.2 k hk).trans (h.2.2 k hk)⟩
theorem hC3.w {c : Nat} {X Y : mM} (h : hC3 c X Y) : hC4 X Y := ⟨fun z a b => h.1 z a (by omega) (by omega), h.2.1⟩
theorem hM3.w {c : Nat} {X Y : mM} (h : hM3 c X Y) : hM4 X Y := ⟨h.1, h.2.1, fun k hk => h.2.2 k (by omega)⟩
theorem fC.k {X X' : mM} (h : fC X X') (c : Nat) : hC3 c X X' := ⟨fun z a _ _ => h.1 z a, h.2, fun k _ => by rw [h.1 23 (by decide)], fun j _ => by rw [h.1 27 (by decide)]⟩
theorem fM.k {X X' : mM} (h : fM X X') (c : Nat) : hM3 c X X' := ⟨fun z a _ => h.1 z a, fun k a b _ _ => h.2 k a b, fun k _ => by rw [h.1 216 (by decide)]⟩
theorem fC.w {X X' : mM} (h : fC X X') : hC4 X X' := (h.k 0).w
theorem fM.w {X X' : mM} (h : fM X X') : hM4 X X' := (h.k 0).w
theorem hM4.dp {X : mM} {v : Int32} : hM4 X (mst X 215 17 v) := ⟨fun z a _ => mst_no a, fun k _ _ h _ => mst_nk h, fun k _ => by rw [mst_no (by decide)]⟩
/-- codes from c to c', by both; what they make of a stack -/
def NC (X Y : mM) (c c' : Nat) (S S' : List Bool) : Prop := ∃ T : Nat → List Bool, T c = S ∧ T c' = S' ∧ ∀ j, c ≤ j → j < c' → CR (X 27 j) (Y 216 (1322 + 2 * j)) (Y 216 (1323 + 2 * j)) ∧ tyS (Y 216 (1322 + 2 * j)) (T j) (T (j + 1)) ∧ (T j).length ≤ 60
theorem NC.mv {X Y X' Y' : mM} {c c' : Nat} {S S' : List Bool} (h : NC X Y c c' S S') (f : hC3 c' X X') (g : hM3 c' Y Y') : NC X' Y' c c' S S' := by
  obtain ⟨T, h1, h2, h3⟩ := h
  refine ⟨T, h1, h2, fun j a b => ?_⟩
  rw [f.2.2.2 j b, g.2.2 _ (by omega), g.2.2 _ (by omega)]
  exact h3 j a b
theorem NC.tr {X Y : mM} {c c1 c2 : Nat} {S S1 S2 : List Bool} (h : NC X Y c c1 S S1) (h' : NC X Y c1 c2 S1 S2) (h1 : c ≤ c1) (h2 : c1 ≤ c2) : NC X Y c c2 S S2 := by
  obtain ⟨T, a1, a2, a3⟩ := h
  obtain ⟨T', b1, b2, b3⟩ := h'
  refine ⟨fun j => if j < c1 then T j else T' j, ?_, ?_, fun j g1 g2 => ?_⟩
  · by_cases e : c < c1
    · exact (if_pos e).trans a1
    · have : c = c1 := by omega
      subst this
      exact (if_neg e).trans (b1.trans (a2.symm.trans a1))
  · exact (if_neg (by omega)).trans b2
  · dsimp only
    by_cases e : j < c1
    · rw [if_pos e]
      by_cases e' : j + 1 < c1
      · rw [if_pos e']
        exact a3 j g1 e
      · have : j + 1 = c1 := by omega
        rw [if_neg e', this, b1, ← a2, ← this]
        exact a3 j g1 e
    · rw [if_neg e, if_neg (by omega)]
      exact b3 j (by omega) g2
section
variable {L : Nat} {B : Nat → Nat}
def StK (L : Nat) (B : Nat → Nat) (X Y : mM) (p c d : Nat) : Prop := p ≤ L ∧ c < p ∧ tC X L B (sB L B p) ∧ tM Y L B p ∧ X 23 6 = nI c ∧ Y 215 20 = nI c ∧ Y 215 17 = nI d
/-- so far all is right; e: what has been read and not emitted -/
def OkK (L : Nat) (B : Nat → Nat) (X Y : mM) (p c : Nat) (S : List Bool) (e : Nat) (X' Y' : mM) (p' c' d : Nat) (S' : List Bool) : Prop := StK L B X' Y' p' c' d ∧ c < p ∧ c ≤ c' ∧ c' + e + p ≤ c + p' ∧ NC X' Y' c c' S S' ∧ hC3 c X X' ∧ hM3 c Y Y'
def NoK (L : Nat) (X Y X' Y' : mM) : Prop := ∃ w, w ≤ L ∧ X' 1 3 = nI w ∧ Y' 215 16 = nI w ∧ hC4 X X' ∧ hM4 Y Y'
def RsK (L : Nat) (B : Nat → Nat) (X Y : mM) (p c d : Nat) (S S' : List Bool) (cr mr : Option (Bool × mM)) : Prop := (∃ X' Y' p' c', cr = some (true, X') ∧ mr = some (true, Y') ∧ OkK L B X Y p c S 0 X' Y' p' c' d S') ∨ (∃ X' Y', cr = some (false, X') ∧ mr = some (false, Y') ∧ NoK L X Y X' Y')
variable {X Y X1 Y1 X2 Y2 : mM} {p c d e p1 c1 d1 e' p2 c2 d2 : Nat} {S S1 S2 : List Bool}
theorem StK.ok (h : StK L B X Y p c d) (S : List Bool) : OkK L B X Y p c S 0 X Y p c d S := ⟨h, h.2.1, Nat.le_refl _, by omega, ⟨fun _ => S, rfl, rfl, fun j a b => absurd b (by omega)⟩, ⟨fun _ _ _ _ => rfl, rfl, fun _ _ => rfl, fun _ _ => rfl⟩, ⟨fun _ _ _ => rfl, fun _ _ _ _ _ => rfl, fun _ _ => rfl⟩⟩
theorem OkK.tr (h : OkK L B X Y p c S e X1 Y1 p1 c1 d1 S1) (h' : OkK L B X1 Y1 p1 c1 S1 e' X2 Y2 p2 c2 d2 S2) : OkK L B X Y p c S (e + e') X2 Y2 p2 c2 d2 S2 := by
  obtain ⟨a1, a2, a3, a4, a5, a6, a7⟩ := h
  obtain ⟨b1, b2, b3, b4, b5, b6, b7⟩ := h'
  exact ⟨b1, a2, Nat.le_trans a3 b3, by omega, (a5.mv b6 b7).tr b5 a3 b3, a6.tr b6 a3, a7.tr b7 a3⟩
theorem OkK.mv (h : OkK L B X Y p c S e X1 Y1 p1 c1 d S1) (f : fC X1 X2) (g : fM Y1 Y2) (hC : tC X2 L B (sB L B p2)) (hM : tM Y2 L B p2) (hp : p2 ≤ L) (i : Nat) (hi : p1 + i ≤ p2) : OkK L B X Y p c S (e + i) X2 Y2 p2 c1 d S1 := by
  obtain ⟨a1, a2, a3, a4, a5, a6, a7⟩ := h
  refine ⟨⟨hp, by have := a1.2.1; omega, hC, hM, ?_, ?_, ?_⟩, a2, a3, by omega, a5.mv (f.k _) (g.k _), a6.tr (f.k c) (Nat.le_refl _), a7.tr (g.k c) (Nat.le_refl _)⟩
  · rw [f.1 23 (by decide)]; exact a1.2.2.2.2.1
  · rw [g.2 20 (by decide) (by decide)]; exact a1.2.2.2.2.2.1
  · rw [g.2 17 (by decide) (by decide)]; exact a1.2.2.2.2.2.2
theorem OkK.e0 (h : OkK L B X Y p c S e X1 Y1 p1 c1 d S1) (e' : Nat) (he : e' ≤ e) : OkK L B X Y p c S e' X1 Y1 p1 c1 d S1 := by
  obtain ⟨a1, a2, a3, a4, a5⟩ := h
  exact ⟨a1, a2, a3, by omega, a5⟩
theorem hM3.dp {c : Nat} {X : mM} {v : Int32} : hM3 c X (mst X 215 17 v) := ⟨fun z a _ => mst_no a, fun k _ _ h _ => mst_nk h, fun k _ => by rw [mst_no (by decide)]⟩
theorem OkK.dp (h : OkK L B X Y p c S e X1 Y1 p1 c1 d S1) (d' : Nat) : OkK L B X Y p c S e X1 (mst Y1 215 17 (nI d')) p1 c1 d' S1 := by
  obtain ⟨a1, a2, a3, a4, a5, a6, a7⟩ := h
  refine ⟨⟨a1.1, a1.2.1, a1.2.2.1, ⟨by rw [mst_nk (by decide)]; exact a1.2.2.2.1.1, fun i hi => by rw [mst_no (by decide)]; exact a1.2.2.2.1.2.1 i hi, by rw [mst_nk (by decide)]; exact a1.2.2.2.1.2.2⟩, a1.2.2.2.2.1, by rw [mst_nk (by decide)]; exact a1.2.2.2.2.2.1, mst_oo _ _ _ _⟩, a2, a3, a4, a5.mv ⟨fun _ _ _ _ => rfl, rfl, fun _ _ => rfl, fun _ _ => rfl⟩ hM3.dp, a6, a7.tr hM3.dp (Nat.le_refl _)⟩
theorem i_nat {x : Int32} (h : ¬ x < 0) : ∃ k, k < 2 ^ 31 ∧ x = nI k := by
  have h0 := Int32.not_lt.mp h
  rw [Int32.le_iff_toInt_le, show (0 : Int32).toInt = 0 from rfl] at h0
  have h1 : x.toInt < 2 ^ 31 := Int32.toInt_lt x
  have h2 : x.toInt.toNat < 2 ^ 31 := by omega
  refine ⟨x.toInt.toNat, h2, Int32.toInt_inj.mp ?_⟩
  rw [nI_toInt h2]
  omega
theorem C_addAny {s : Int32} {X : mM} : ∃ X', f_X0_addStep 23 s X = some ((), X') ∧ (∀ z, z ≠ 23 → z ≠ 27 → X' z = X z) := by
  unfold f_X0_addStep
  rw [gd_t (show mLwB 23 = true by decide)]
  cases h1 : decide (X 23 6 < 0)
  · cases h2 : decide ((400 : Int32) ≤ X 23 6)
    · have hi : mIn (X 23 6) 400 = true := by
        obtain ⟨k, hk, e⟩ := i_nat (of_decide_eq_false h1)
        rw [e] at h2 ⊢
        rw [show decide ((400 : Int32) ≤ nI k) = decide (400 ≤ k) from i_le (a := 400) (by decide) hk] at h2
        exact i_in (by have := of_decide_eq_false h2; omega) (by decide)
      rw [cond_false, cond_false, gd_t hi, wr_e, wr_e]
      exact ⟨_, rfl, fun z h1 h2 => by rw [mst_no h1, mst_no h2]⟩
    · exact ⟨_, rfl, fun _ _ _ => rfl⟩
  · exact ⟨_, rfl, fun _ _ _ => rfl⟩
theorem C_add1 {s : Int32} {X : mM} {c : Nat} (h : X 23 6 = nI c) (hc : c < 400) : f_X0_addStep 23 s X = some ((), mst (mst X 27 c s) 23 6 (nI (c + 1))) := by
  unfold f_X0_addStep
  rw [gd_t (show mLwB 23 = true by decide), h, decide_eq_false (nI_pos (show c < 2 ^ 31 by omega)), cond_false, show decide ((400 : Int32) ≤ nI c) = false from i_lit (a := 400) (by decide) hc, cond_false, gd_t (i_in hc (by decide)), wr_e, wr_e, i_ix (by omega)]
  rw [show (mst X (23 + 4) c s) 23 6 = nI c by rw [mst_no (by decide)]; exact h, i_1]
theorem M_emit {cd am : Int32} {Y : mM} {c : Nat} (h : Y 215 20 = nI c) (hc : c < 400) : f_X12_emits cd am Y = some ((), mst (mst (mst Y 216 (1322 + 2 * c) cd) 216 (1323 + 2 * c) am) 215 20 (nI (c + 1))) := by
  have e1 : (1322 : Int32) + (2 : Int32) * nI c = nI (1322 + 2 * c) := by
    rw [show (2 : Int32) = nI 2 from rfl, show (1322 : Int32) = nI 1322 from rfl, pk_mul, nI_add]
  unfold f_X12_emits
  rw [h, e1, gd_t (i_in (by omega) (by decide)), wr_e, i_ix (by omega), mst_no (show 215 ≠ 216 by decide), h, e1, i_1, gd_t (i_in (by omega) (by decide)), wr_e, i_ix (by omega), wr_e, mst_no (show 215 ≠ 216 by decide), mst_no (show 215 ≠ 216 by decide), h, i_1, show 1322 + 2 * c + 1 = 1323 + 2 * c by omega]
/-- what is emitted whatever comes of it -/
theorem M_emitW {cd am : Int32} {Y : mM} {c : Nat} (h : Y 215 20 = nI c) (hc : c < 400) : ∃ Y', f_X12_emits cd am Y = some ((), Y') ∧ hM4 Y Y' ∧ Y' 215 16 = Y 215 16 := ⟨_, M_emit h hc, ⟨fun z a b => by rw [mst_no a, mst_no b, mst_no b], fun k _ _ _ a => by rw [mst_nk a, mst_no (by decide), mst_no (by decide)], fun k hk => by rw [mst_no (by decide), mst_nk (by omega), mst_nk (by omega)]⟩, by rw [mst_nk (by decide), mst_no (by decide), mst_no (by decide)]⟩
theorem OkK.em (hT : txt L B) (h : OkK L B X Y p c S (e + 1) X1 Y1 p1 c1 d S1) {s cd am : Int32} (hr : CR s cd am) (ht : tyS cd S1 S2) (hl : S1.length ≤ 60) : ∃ X2 Y2, f_X0_addStep 23 s X1 = some ((), X2) ∧ f_X12_emits cd am Y1 = some ((), Y2) ∧ OkK L B X Y p c S e X2 Y2 p1 (c1 + 1) d S2 := by
  obtain ⟨⟨u1, u2, u3, u4, u5, u6, u7⟩, a2, a3, a4, ⟨T, b1, b2, b3⟩, a6, a7⟩ := h
  have hL := hT.1
  refine ⟨_, _, C_add1 u5 (by omega), M_emit u6 (by omega), ⟨u1, by omega, ?_, ?_, mst_oo _ _ _ _, mst_oo _ _ _ _, ?_⟩, a2, by omega, by omega, ⟨fun j => if j ≤ c1 then T j else S2, (if_pos a3).trans b1, if_neg (by omega), fun j g1 g2 => ?_⟩, ?_, ?_⟩
  · exact u3.cg (by rw [mst_no (by decide), mst_no (by decide)]) (by rw [mst_no (by decide), mst_no (by decide)])
  · exact ⟨by rw [mst_nk (by decide), mst_no (by decide), mst_no (by decide)]; exact u4.1, fun i hi => by rw [mst_no (by decide), mst_no (by decide), mst_no (by decide)]; exact u4.2.1 i hi, by rw [mst_nk (by decide), mst_no (by decide), mst_no (by decide)]; exact u4.2.2⟩
  · rw [mst_nk (by decide), mst_no (by decide), mst_no (by decide)]; exact u7
  · dsimp only
    rw [mst_no (show 27 ≠ 23 by decide), mst_no (show 216 ≠ 215 by decide), if_pos (show j ≤ c1 by omega)]
    by_cases ej : j = c1
    · subst ej
      rw [mst_oo, mst_nk (show 1322 + 2 * j ≠ 1323 + 2 * j by omega), mst_oo, mst_oo, if_neg (by omega), b2]
      exact ⟨hr, ht, hl⟩
    · rw [mst_nk ej, mst_nk (show 1322 + 2 * j ≠ 1323 + 2 * c1 by omega), mst_nk (show 1322 + 2 * j ≠ 1322 + 2 * c1 by omega), mst_nk (show 1323 + 2 * j ≠ 1323 + 2 * c1 by omega), mst_nk (show 1323 + 2 * j ≠ 1322 + 2 * c1 by omega), if_pos (by omega)]
      exact b3 j g1 (by omega)
  · exact ⟨fun z g1 g2 g3 => by rw [mst_no g2, mst_no g3]; exact a6.1 z g1 g2 g3, by rw [mst_no (by decide), mst_no (by decide)]; exact a6.2.1, fun k hk => by rw [mst_nk hk, mst_no (by decide)]; exact a6.2.2.1 k hk, fun j hj => by rw [mst_no (by decide), mst_nk (by omega)]; exact a6.2.2.2 j hj⟩
  · exact ⟨fun z g1 g2 => by rw [mst_no g1, mst_no g2, mst_no g2]; exact a7.1 z g1 g2, fun k g1 g2 g3 g4 => by rw [mst_nk g4, mst_no (by decide), mst_no (by decide)]; exact a7.2.1 k g1 g2 g3 g4, fun k hk => by rw [mst_no (by decide), mst_nk (by omega), mst_nk (by omega)]; exact a7.2.2 k hk⟩
theorem NoK.at_ (h : OkK L B X Y p c S e X1 Y1 p1 c1 d S1) (h' : NoK L X1 Y1 X2 Y2) : NoK L X Y X2 Y2 := by
  obtain ⟨w, a1, a2, a3, a4, a5⟩ := h'
  exact ⟨w, a1, a2, a3, h.2.2.2.2.2.1.w.tr a4, h.2.2.2.2.2.2.w.tr a5⟩
/-- the class adds a step although nothing comes of it -/
theorem NoK.add (h : NoK L X Y X1 Y1) {s : Int32} : ∃ X2, f_X0_addStep 23 s X1 = some ((), X2) ∧ NoK L X Y X2 Y1 := by
  obtain ⟨w, a1, a2, a3, a4, a5⟩ := h
  obtain ⟨X2, b1, b2⟩ := C_addAny (s := s) (X := X1)
  exact ⟨X2, b1, w, a1, by rw [b2 1 (by decide) (by decide)]; exact a2, a3, a4.tr ⟨fun z _ hz => b2 z (by omega) (by omega), by rw [b2 1 (by decide) (by decide)]⟩, a5⟩
theorem NoK.mk {w : Nat} (hw : w ≤ L) (h1 : X1 1 3 = nI w) (h2 : Y1 215 16 = nI w) (f : hC4 X X1) (g : hM4 Y Y1) : NoK L X Y X1 Y1 := ⟨w, hw, h1, h2, f, g⟩
theorem RsK.at_ (h : OkK L B X Y p c S e X1 Y1 p1 c1 d S1) {cr mr : Option (Bool × mM)} (h' : RsK L B X1 Y1 p1 c1 d S1 S2 cr mr) : RsK L B X Y p c d S S2 cr mr := by
  rcases h' with ⟨X', Y', p', c', g1, g2, g3⟩ | ⟨X', Y', g1, g2, g3⟩
  · exact Or.inl ⟨X', Y', p', c', g1, g2, (h.tr g3).e0 0 (Nat.zero_le _)⟩
  · exact Or.inr ⟨X', Y', g1, g2, NoK.at_ h g3⟩
end
