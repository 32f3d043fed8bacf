/-! the relation of the class's contents and the reference's; what leaves it -/
def sgn8 (b : Nat) : Int32 := vp_nar .byte (nI b)
def Tp (M : mM) : Prop := ∃ L, L ≤ 400 ∧ M 1 1 = nI L ∧ M 215 13 = nI L ∧ M 1 3 = M 215 18 ∧ ∀ i, i < L → ∃ b, b < 256 ∧ M 2 i = nI b ∧ M 223 i = sgn8 b
def Im (M : mM) : Prop := (M 0 11 = 0 ∧ M 215 6 = 0) ∨ (M 0 11 = 1 ∧ M 215 6 = 1 ∧ ∃ n, WF n (M 217) ∧ stB n (M 217) (fun _ => 0) = true ∧ TS n (M 217) M 59 ∧ LW (M 217) M 29)
/-- the j-th latest of the worlds that are kept, of c -/
def pW (M : mM) (c j : Nat) : Nat → Int32 := fun k => M 220 (424 * (c - 1 - j) + k)
def Ps (M : mM) : Prop := ∃ x c, x < 12 ∧ c ≤ 12 ∧ M 3 1 = nI x ∧ M 3 2 = nI c ∧ M 215 7 = nI c ∧ ∀ j, j < c → ∃ n, WF n (pW M c j) ∧ stB n (pW M c j) (fun _ => 0) = true ∧ TS n (pW M c j) M (71 + 12 * ((x + 11 - j) % 12)) ∧ pW M c j 2 = M 216 2
def Rl (n : Nat) (M : mM) : Prop := WF n (M 216) ∧ stB n (M 216) (fun _ => 0) = true ∧ TS n (M 216) M 35 ∧ LW (M 216) M 17 ∧ Tp M ∧ Im M ∧ Ps M
theorem LW.mv {W : Nat → Int32} {M M' : mM} {o o' : Nat} (h : LW W M o) (e0 : M' o' 0 = M o 0) (e1 : M' o' 1 = M o 1) (ej : ∀ j, 1 ≤ j → j ≤ 3 → ∀ k, k < 12 → M' (o' + j) k = M (o + j) k) (e4 : ∀ k, k < 400 → M' (o' + 4) k = M (o + 4) k) : LW W M' o' := by
  rcases h with ⟨a, b⟩ | ⟨a, b, m, hm, c1, c2, e, T, h⟩
  · exact Or.inl ⟨by rw [e0]; exact a, b⟩
  · refine Or.inr ⟨by rw [e0]; exact a, b, m, hm, by rw [e1]; exact c1, c2, e, T, fun i hi => ?_⟩
    obtain ⟨d1, d2, d3, d4, d5, d6, d7, d8, d9⟩ := h i hi
    refine ⟨by rw [ej 1 (by decide) (by decide) i (by omega)]; exact d1, by rw [ej 2 (by decide) (by decide) i (by omega)]; exact d2, by rw [ej 3 (by decide) (by decide) i (by omega)]; exact d3, d4, d5, d6, d7, d8, fun j g1 g2 => ?_⟩
    rw [e4 j (by omega)]
    exact d9 j g1 g2
theorem LW.rf {W : Nat → Int32} {M M' : mM} {o : Nat} (h : LW W M o) (e : ∀ j, j < 5 → M' (o + j) = M (o + j)) : LW W M' o := h.mv (by rw [show M' o = M o from e 0 (by decide)]) (by rw [show M' o = M o from e 0 (by decide)]) (fun j h1 h2 k _ => by rw [e j (by omega)]) (fun k _ => by rw [e 4 (by decide)])
theorem LW.eq {W W' : Nat → Int32} {M : mM} {o : Nat} (h : LW W M o) (e : ∀ k, k < 1273 → W' k = W k) : LW W' M o := by
  rcases h with ⟨a, b⟩ | ⟨a, b, m, hm, c1, c2, e', T, h⟩
  · exact Or.inl ⟨a, by rw [e _ (by decide)]; exact b⟩
  · refine Or.inr ⟨a, by rw [e _ (by decide)]; exact b, m, hm, c1, by rw [e _ (by decide)]; exact c2, e', T, fun i hi => ?_⟩
    obtain ⟨d1, d2, d3, d4, d5, d6, d7, d8, d9⟩ := h i hi
    refine ⟨by rw [e _ (by omega)]; exact d1, by rw [e _ (by omega)]; exact d2, d3, by rw [e _ (by omega)]; exact d4, by rw [e _ (by omega)]; exact d5, d6, d7, d8, fun j g1 g2 => ?_⟩
    rw [e _ (by omega), e _ (by omega)]
    exact d9 j g1 g2
/-- rows that the class writes as it likes -/
def sC (z : Nat) : Bool := (Nat.ble 5 z && Nat.ble z 16) || (Nat.ble 22 z && Nat.ble z 28) || Nat.beq z 34 || Nat.beq z 43 || (Nat.ble 46 z && Nat.ble z 58)
def CQ (M M' : mM) : Prop := (∀ z, sC z = false → z ≠ 35 → M' z = M z) ∧ ∀ k, k ≠ 19 → M' 35 k = M 35 k
/-- and the reference -/
def sM (z : Nat) : Bool := Nat.beq z 218 || Nat.beq z 219 || Nat.beq z 221 || Nat.beq z 222 || (Nat.ble 224 z && Nat.ble z 231)
def RQ (M M' : mM) : Prop := (∀ z, sM z = false → z ≠ 215 → M' z = M z) ∧ ∀ k, (k = 6 ∨ k = 7 ∨ k = 13 ∨ k = 18) → M' 215 k = M 215 k
theorem CQ.rf {M : mM} : CQ M M := ⟨fun _ _ _ => rfl, fun _ _ => rfl⟩
theorem RQ.rf {M : mM} : RQ M M := ⟨fun _ _ _ => rfl, fun _ _ => rfl⟩
theorem CQ.tr {M M1 M2 : mM} (h : CQ M M1) (h' : CQ M1 M2) : CQ M M2 := ⟨fun z a b => by rw [h'.1 z a b, h.1 z a b], fun k a => by rw [h'.2 k a, h.2 k a]⟩
theorem RQ.tr {M M1 M2 : mM} (h : RQ M M1) (h' : RQ M1 M2) : RQ M M2 := ⟨fun z a b => by rw [h'.1 z a b, h.1 z a b], fun k a => by rw [h'.2 k a, h.2 k a]⟩
theorem CQ.rs {M : mM} {q : Nat} {f : Nat → Int32} (h : sC q = true) : CQ M (rs M q f) := by
  have h35 : q ≠ 35 := fun z => by rw [z] at h; exact absurd h (by decide)
  exact ⟨fun z a b => rs_ne (fun e => by rw [e, h] at a; cases a), fun k _ => by rw [rs_ne (Ne.symm h35)]⟩
theorem RQ.rs {M : mM} {q : Nat} {f : Nat → Int32} (h : sM q = true) : RQ M (rs M q f) := by
  have h2 : q ≠ 215 := fun z => by rw [z] at h; exact absurd h (by decide)
  exact ⟨fun z a b => rs_ne (fun e => by rw [e, h] at a; cases a), fun k _ => by rw [rs_ne (Ne.symm h2)]⟩
theorem CQ.st {M : mM} {q k : Nat} {v : Int32} (h : sC q = true) : CQ M (mst M q k v) := by rw [mst_rs]; exact CQ.rs h
theorem RQ.st {M : mM} {q k : Nat} {v : Int32} (h : sM q = true) : RQ M (mst M q k v) := by rw [mst_rs]; exact RQ.rs h
theorem CQ.st35 {M : mM} {v : Int32} : CQ M (mst M 35 19 v) := ⟨fun z _ b => mst_no b, fun k h => mst_nk h⟩
theorem RQ.st215 {M : mM} {j : Nat} {v : Int32} (h : j ≠ 6 ∧ j ≠ 7 ∧ j ≠ 13 ∧ j ≠ 18) : RQ M (mst M 215 j v) := ⟨fun z _ b => mst_no b, fun k hk => mst_nk (by omega)⟩
theorem CQ.of {M M' : mM} (h : ∀ z, sC z = false → M' z = M z) : CQ M M' := ⟨fun z a _ => h z a, fun k _ => by rw [h 35 (by decide)]⟩
theorem eqT.cq {M M' : mM} (h : CQ M M') {o : Nat} (ho : o = 35 ∨ (59 ≤ o ∧ o + 11 ≤ 215)) : eqT M o M' o := by
  rcases ho with rfl | ⟨h1, h2⟩
  · refine ⟨fun k hk => h.2 k (by omega), fun j g1 g2 k hk => ?_, fun k hk => ?_, fun k hk => ?_⟩
    · rw [h.1 (35 + j) ?_ (by omega)]
      match j, g1, g2 with
      | 1, _, _ => rfl | 2, _, _ => rfl | 3, _, _ => rfl | 4, _, _ => rfl | 5, _, _ => rfl | 6, _, _ => rfl | 7, _, _ => rfl
    · rw [h.1 44 rfl (by decide)]
    · rw [h.1 45 rfl (by decide)]
  · refine eqT.rf fun j hj hj8 => h.1 _ ?_ (by omega)
    unfold sC
    simp only [Bool.or_eq_false_iff, Bool.and_eq_false_iff]
    have b1 : Nat.ble (o + j) 16 = false := by cases e : Nat.ble (o + j) 16 with | false => rfl | true => exact absurd (Nat.ble_eq.mp e) (by omega)
    have b2 : Nat.ble (o + j) 28 = false := by cases e : Nat.ble (o + j) 28 with | false => rfl | true => exact absurd (Nat.ble_eq.mp e) (by omega)
    have b3 : Nat.ble (o + j) 58 = false := by cases e : Nat.ble (o + j) 58 with | false => rfl | true => exact absurd (Nat.ble_eq.mp e) (by omega)
    have b4 : Nat.beq (o + j) 34 = false := by cases e : Nat.beq (o + j) 34 with | false => rfl | true => exact absurd (Nat.eq_of_beq_eq_true e) (by omega)
    have b5 : Nat.beq (o + j) 43 = false := by cases e : Nat.beq (o + j) 43 with | false => rfl | true => exact absurd (Nat.eq_of_beq_eq_true e) (by omega)
    exact ⟨⟨⟨⟨Or.inr b1, Or.inr b2⟩, b4⟩, b5⟩, Or.inr b3⟩
theorem sM_lt {z : Nat} (h : z < 218) : sM z = false := by
  unfold sM
  simp only [Bool.or_eq_false_iff, Bool.and_eq_false_iff]
  have b1 : Nat.beq z 218 = false := by cases e : Nat.beq z 218 with | false => rfl | true => exact absurd (Nat.eq_of_beq_eq_true e) (by omega)
  have b2 : Nat.beq z 219 = false := by cases e : Nat.beq z 219 with | false => rfl | true => exact absurd (Nat.eq_of_beq_eq_true e) (by omega)
  have b3 : Nat.beq z 221 = false := by cases e : Nat.beq z 221 with | false => rfl | true => exact absurd (Nat.eq_of_beq_eq_true e) (by omega)
  have b4 : Nat.beq z 222 = false := by cases e : Nat.beq z 222 with | false => rfl | true => exact absurd (Nat.eq_of_beq_eq_true e) (by omega)
  have b5 : Nat.ble 224 z = false := by cases e : Nat.ble 224 z with | false => rfl | true => exact absurd (Nat.ble_eq.mp e) (by omega)
  exact ⟨⟨⟨⟨b1, b2⟩, b3⟩, b4⟩, Or.inl b5⟩
theorem pW_eq {M M' : mM} (h : M' 220 = M 220) (c j : Nat) : pW M' c j = pW M c j := by unfold pW; rw [h]
theorem Rl.cq {n : Nat} {M M' : mM} (h : Rl n M) (q : CQ M M') : Rl n M' := by
  obtain ⟨a1, a2, a3, a4, ⟨L, b1, b2, b3, b4, b5⟩, a6, ⟨x, c, c1, c2, c3, c4, c5, c6⟩⟩ := h
  have e216 : M' 216 = M 216 := q.1 216 rfl (by decide)
  have e217 : M' 217 = M 217 := q.1 217 rfl (by decide)
  have e215 : M' 215 = M 215 := q.1 215 rfl (by decide)
  have e1 : M' 1 = M 1 := q.1 1 rfl (by decide)
  have e3 : M' 3 = M 3 := q.1 3 rfl (by decide)
  refine ⟨by rw [e216]; exact a1, by rw [e216]; exact a2, by rw [e216]; exact a3.mv a1.2.1 (eqT.cq q (Or.inl rfl)), ?_, ⟨L, b1, by rw [e1]; exact b2, by rw [e215]; exact b3, by rw [e1, e215]; exact b4, fun i hi => by rw [q.1 2 rfl (by decide), q.1 223 rfl (by decide)]; exact b5 i hi⟩, ?_, ⟨x, c, c1, c2, by rw [e3]; exact c3, by rw [e3]; exact c4, by rw [e215]; exact c5, fun j hj => ?_⟩⟩
  · rw [e216]
    refine a4.rf fun j hj => q.1 _ ?_ (by omega)
    match j, hj with
    | 0, _ => rfl | 1, _ => rfl | 2, _ => rfl | 3, _ => rfl | 4, _ => rfl
  · unfold Im
    rw [e215, e217, q.1 0 rfl (by decide)]
    rcases a6 with a6 | ⟨g1, g2, n', g3, g4, g5, g6⟩
    · exact Or.inl a6
    · refine Or.inr ⟨g1, g2, n', g3, g4, g5.mv g3.2.1 (eqT.cq q (Or.inr (by omega))), g6.rf fun j hj => q.1 _ ?_ (by omega)⟩
      match j, hj with
      | 0, _ => rfl | 1, _ => rfl | 2, _ => rfl | 3, _ => rfl | 4, _ => rfl
  · obtain ⟨n', g1, g2, g3, g4⟩ := c6 j hj
    rw [pW_eq (q.1 220 rfl (by decide)), e216]
    have : (x + 11 - j) % 12 < 12 := Nat.mod_lt _ (by decide)
    exact ⟨n', g1, g2, g3.mv g1.2.1 (eqT.cq q (Or.inr (by omega))), g4⟩
theorem Rl.mq {n : Nat} {M M' : mM} (h : Rl n M) (q : RQ M M') : Rl n M' := by
  obtain ⟨a1, a2, a3, a4, ⟨L, b1, b2, b3, b4, b5⟩, a6, ⟨x, c, c1, c2, c3, c4, c5, c6⟩⟩ := h
  have el : ∀ z, z < 215 → M' z = M z := fun z hz => q.1 z (sM_lt (by omega)) (by omega)
  have e216 : M' 216 = M 216 := q.1 216 rfl (by decide)
  have e217 : M' 217 = M 217 := q.1 217 rfl (by decide)
  have e1 : M' 1 = M 1 := el 1 (by decide)
  have e3 : M' 3 = M 3 := el 3 (by decide)
  refine ⟨by rw [e216]; exact a1, by rw [e216]; exact a2, by rw [e216]; exact a3.mv a1.2.1 (eqT.rf fun j hj _ => el _ (by omega)), by rw [e216]; exact a4.rf fun j hj => el _ (by omega), ⟨L, b1, by rw [e1]; exact b2, by rw [q.2 13 (by decide)]; exact b3, by rw [e1, q.2 18 (by decide)]; exact b4, fun i hi => by rw [el 2 (by decide), q.1 223 rfl (by decide)]; exact b5 i hi⟩, ?_, ⟨x, c, c1, c2, by rw [e3]; exact c3, by rw [e3]; exact c4, by rw [q.2 7 (by decide)]; exact c5, fun j hj => ?_⟩⟩
  · unfold Im
    rw [q.2 6 (by decide), e217, el 0 (by decide)]
    rcases a6 with a6 | ⟨g1, g2, n', g3, g4, g5, g6⟩
    · exact Or.inl a6
    · exact Or.inr ⟨g1, g2, n', g3, g4, g5.mv g3.2.1 (eqT.rf fun j hj _ => el _ (by omega)), g6.rf fun j hj => el _ (by omega)⟩
  · obtain ⟨n', g1, g2, g3, g4⟩ := c6 j hj
    rw [pW_eq (q.1 220 rfl (by decide)), e216]
    have : (x + 11 - j) % 12 < 12 := Nat.mod_lt _ (by decide)
    exact ⟨n', g1, g2, g3.mv g1.2.1 (eqT.rf fun j hj _ => el _ (by omega)), g4⟩
