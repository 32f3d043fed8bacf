/-! tower, the op -/
section
variable {n : Nat} {M : mM}
/-- nothing has changed but the tape and the fault -/
theorem Rl.tx (h : Rl n M) {R1 : Nat → Int32} {v : Int32} (r1 : R1 1 = 0) (r3 : R1 3 = v) : Rl n (mst (mst (rs M 1 R1) 215 13 0) 215 18 v) := by
  have h8 := h.h8
  have eZ : ∀ z, z ≠ 1 → z ≠ 215 → mst (mst (rs M 1 R1) 215 13 0) 215 18 v z = M z := fun z z1 z2 => by rw [mst_no z2, mst_no z2, rs_ne z1]
  have e5 : ∀ k, k ≠ 13 → k ≠ 18 → mst (mst (rs M 1 R1) 215 13 0) 215 18 v 215 k = M 215 k := fun k hk hk2 => by rw [mst_nk hk2, mst_nk hk, rs_ne (by decide)]
  have e1 : mst (mst (rs M 1 R1) 215 13 0) 215 18 v 1 = R1 := by rw [mst_no (by decide), mst_no (by decide), rs_at]
  have e13 : mst (mst (rs M 1 R1) 215 13 0) 215 18 v 215 13 = nI 0 := by rw [mst_nk (by decide), mst_oo]; rfl
  have e18 : mst (mst (rs M 1 R1) 215 13 0) 215 18 v 215 18 = v := mst_oo _ _ _ _
  generalize mst (mst (rs M 1 R1) 215 13 0) 215 18 v = M' at eZ e5 e1 e13 e18 ⊢
  have e216 : M' 216 = M 216 := eZ 216 (by decide) (by decide)
  refine ⟨by rw [e216]; exact h.1, by rw [e216]; exact h.2.1, by rw [e216]; exact h.ts.in216 h8 fun z z1 z2 => eZ z (by omega) (by omega), by rw [e216]; exact h.lw.rf fun j hj => eZ _ (by omega) (by omega), ⟨0, Nat.zero_le _, by rw [e1]; exact r1, e13, by rw [e1, e18]; exact r3, fun i hi => absurd hi (Nat.not_lt_zero i)⟩, ?_, ?_⟩
  · exact h.im.mv (by rw [eZ 0 (by decide) (by decide)]) (e5 _ (by decide) (by decide)) (eZ 217 (by decide) (by decide)) (fun z z1 z2 => eZ z (by omega) (by omega)) (fun z z1 z2 => eZ z (by omega) (by omega))
  · obtain ⟨y, c, hCp, hMp⟩ := h.ps.out
    exact Ps.mk (Mc := M') (Mm := M) (hCp.mv fun z hz => eZ z (by omega) (by omega)) hMp (fun z _ => rfl) (e5 _ (by decide) (by decide)) (eZ 220 (by decide) (by decide)) (by rw [e216])
theorem Rl.cm {A M2 : mM} (h : Rl n A) (e : ∀ z, sC z = false → sM z = false → z ≠ 35 → z ≠ 215 → M2 z = A z) (e35 : ∀ k, k ≠ 19 → M2 35 k = A 35 k) (e215 : ∀ k, (k = 6 ∨ k = 7 ∨ k = 13 ∨ k = 18) → M2 215 k = A 215 k) : Rl n M2 := by
  have s59 : ∀ z, sM z = true → sC z = false := fun z hz => by
    refine sC_ge ?_
    refine Classical.byContradiction fun hc => ?_
    rw [sM_lt (show z < 218 by omega)] at hz
    cases hz
  let Bm : mM := fun z => bif sC z || decide (z = 35) then M2 z else A z
  have hb : ∀ z, Bm z = bif sC z || decide (z = 35) then M2 z else A z := fun z => rfl
  have c1 : CQ A Bm := ⟨fun z a b => by rw [hb, a, decide_eq_false b]; rfl, fun k hk => by rw [hb, decide_eq_true rfl, Bool.or_true, cond_true]; exact e35 k hk⟩
  have c2 : RQ Bm M2 := ⟨fun z a b => by
    rw [hb]
    cases c : sC z || decide (z = 35)
    · rw [Bool.or_eq_false_iff] at c
      exact e z c.1 a (of_decide_eq_false c.2) b
    · rfl, fun k hk => by rw [hb]; exact e215 k hk⟩
  exact (h.cq c1).mq c2
/-- the tape of a text -/
theorem Tp.tx (h : Tp M) : ∃ (L : Nat) (B : Nat → Nat), txt L B ∧ M 1 1 = nI L ∧ M 215 13 = nI L ∧ (∀ i, i < L → M 2 i = nI (B i)) ∧ ∀ i, i < L → M 223 i = sgn8 (B i) := by
  obtain ⟨L, B, a, b, c, d⟩ := h.by'
  exact ⟨L, B, ⟨a, fun i hi => (d i hi).1⟩, b, c, fun i hi => (d i hi).2.1, fun i hi => (d i hi).2.2⟩
def tTo (E : Nat) : Int32 := bif Nat.beq E 0 then 1 else bif Nat.beq E 1 then 2 else 0
/-- the reference keeps all, and has all back -/
theorem M_keep1 {Mo : mM} : ∃ K, (∀ z, z ≠ 218 → K z = Mo z) ∧ (∀ j, j < 1273 → K 218 j = Mo 216 j) ∧ f_X12_tower Mo = b2 (f_X12_readAll true K) (fun v16 M16 => bif decide (v16 < 0) then f_X12_tower_30 v16 M16 else (b2 (f_X12_stands M16) (fun v19 M19 => bif v19 then f_X12_tower_30 v16 M19 else (wr (mst M19 215 16 (M19 215 15)) (fun M22 => f_X12_tower_30 (-1 : Int32) M22))))) := by
  let K : Nat → mM := fun k => rs Mo 218 (fun j => if j < k then Mo 216 j else Mo 218 j)
  have hK : ∀ k, K k = rs Mo 218 (fun j => if j < k then Mo 216 j else Mo 218 j) := fun k => rfl
  refine ⟨K 1273, fun z hz => by rw [hK]; exact rs_ne hz, fun j hj => by rw [hK, rs_at]; exact if_pos hj, ?_⟩
  have st : ∀ k, k < 1273 → f_X12_tower_2 (nI k) (K k) = some (.inr (nI (k + 1), K (k + 1))) := fun k hk => by
    unfold f_X12_tower_2
    rw [show decide ((1273 : Int32) ≤ nI k) = false from i_lit (a := 1273) (by decide) hk]
    rw [cond_false, gd_t (i_in (by omega) (by decide)), gd_t (i_in (by omega) (by decide)), wr_e, i_ix (by omega), i_1, hK, rs_ne (show 216 ≠ 218 by decide), rs_st, hK]
    congr 4
    funext j
    by_cases h : j = k
    · rw [h, upd_at, if_pos (by omega)]
    · rw [upd_ne h]
      by_cases h2 : j < k
      · rw [if_pos h2, if_pos (by omega)]
      · rw [if_neg h2, if_neg (by omega)]
  have e0 : ((0 : Int32), Mo) = (nI 0, K 0) := by
    have : K 0 = Mo := by
      rw [hK]
      have : (fun j => if j < 0 then Mo 216 j else Mo 218 j) = Mo 218 := by funext j; exact if_neg (by omega)
      rw [this, rs_self]
    rw [this]
    rfl
  unfold f_X12_tower f_X12_tower_l2
  rw [e0]
  have key : ∀ i k f, i + k = 1273 → i < f → wh f (fun s : Int32 × mM => f_X12_tower_2 s.1 s.2) (nI k, K k) = b2 (f_X12_readAll true (K 1273)) (fun v16 M16 => bif decide (v16 < 0) then f_X12_tower_30 v16 M16 else (b2 (f_X12_stands M16) (fun v19 M19 => bif v19 then f_X12_tower_30 v16 M19 else (wr (mst M19 215 16 (M19 215 15)) (fun M22 => f_X12_tower_30 (-1 : Int32) M22))))) := by
    intro i
    induction i with
    | zero =>
      intro k f hk hf
      obtain ⟨f, rfl⟩ : ∃ y, f = y + 1 := ⟨f - 1, by omega⟩
      have hk' : k = 1273 := by omega
      subst hk'
      refine wh_eE ?_
      show f_X12_tower_2 (nI 1273) (K 1273) = _
      unfold f_X12_tower_2
      rw [show decide ((1273 : Int32) ≤ nI 1273) = true from rfl, cond_true]
      cases f_X12_readAll true (K 1273) with
      | none => rfl
      | some r =>
        obtain ⟨v, Z⟩ := r
        rw [b2_s, b2_s]
        cases decide (v < 0)
        · rw [cond_false, cond_false]
          cases f_X12_stands Z with
          | none => rfl
          | some r =>
            obtain ⟨w, Z'⟩ := r
            rw [b2_s, b2_s]
            cases w
            · rw [cond_false, cond_false, wr_e, wr_e]
            · rw [cond_true, cond_true]
        · rw [cond_true, cond_true]
    | succ i ih =>
      intro k f hk hf
      obtain ⟨f, rfl⟩ : ∃ y, f = y + 1 := ⟨f - 1, by omega⟩
      rw [wh_sS (b := fun s : Int32 × mM => f_X12_tower_2 s.1 s.2) (s := (nI k, K k)) (s' := (nI (k + 1), K (k + 1))) (st k (by omega))]
      exact ih (k + 1) f (by omega) (by omega)
  exact key 1273 0 100000 rfl (by decide)
theorem M_restore {Y : mM} : ∃ Y', f_X12_tower_l62 0 Y = some (0, Y') ∧ (∀ z, z ≠ 216 → Y' z = Y z) ∧ (∀ j, j < 1273 → Y' 216 j = Y 218 j) ∧ ∀ j, 1273 ≤ j → Y' 216 j = Y 216 j := by
  unfold f_X12_tower_l62
  refine wh_V (fun k (s : Int32 × mM) => s.1 = nI k ∧ (∀ z, z ≠ 216 → s.2 z = Y z) ∧ (∀ j, j < k → s.2 216 j = Y 218 j) ∧ ∀ j, k ≤ j → s.2 216 j = Y 216 j) _ _ 1273 _ _ ⟨rfl, fun _ _ => rfl, fun j hj => absurd hj (Nat.not_lt_zero j), fun _ _ => rfl⟩ (fun k hk s hs' => ?_) (fun s hs' => ?_) (by decide)
  · obtain ⟨a, Z⟩ := s
    obtain ⟨h1, h2, h3, h4⟩ := hs'
    dsimp only at h1 h2 h3 h4
    subst h1
    show ∃ s', f_X12_tower_62 (nI k) Z = some (.inr s') ∧ _
    unfold f_X12_tower_62
    rw [show decide ((1273 : Int32) ≤ nI k) = false from i_lit (a := 1273) (by decide) hk]
    rw [cond_false, gd_t (i_in (by omega) (by decide)), gd_t (i_in (by omega) (by decide)), wr_e, i_ix (by omega), i_1, h2 218 (by decide)]
    refine ⟨_, rfl, rfl, fun z hz => (mst_no hz).trans (h2 z hz), fun j hj => ?_, fun j hj => (mst_nk (by omega)).trans (h4 j (by omega))⟩
    show mst Z 216 k (Y 218 k) 216 j = _
    by_cases h : j = k
    · rw [h, mst_oo]
    · rw [mst_nk h]
      exact h3 j (by omega)
  · obtain ⟨a, Z⟩ := s
    obtain ⟨h1, h2, h3, h4⟩ := hs'
    dsimp only at h1 h2 h3 h4
    subst h1
    show ∃ M', f_X12_tower_62 (nI 1273) Z = some (.inl (0, M')) ∧ _
    unfold f_X12_tower_62
    rw [show decide ((1273 : Int32) ≤ nI 1273) = true from rfl, cond_true]
    exact ⟨_, rfl, h2, h3, h4⟩
theorem M_restored {Y Mo : mM} (e218 : ∀ j, j < 1273 → Y 218 j = Mo 216 j) (e : ∀ j, 424 ≤ j → Y 216 j = Mo 216 j) : ∃ Y', f_X12_tower_l62 0 Y = some (0, Y') ∧ (∀ z, z ≠ 216 → Y' z = Y z) ∧ Y' 216 = Mo 216 := by
  obtain ⟨Y', a, b, c, d⟩ := M_restore (Y := Y)
  refine ⟨Y', a, b, funext fun j => ?_⟩
  by_cases h : j < 1273
  · rw [c j h, e218 j h]
  · rw [d j (by omega), e j (by omega)]
/-- nothing comes of it -/
theorem OpT.no (h : Rl n M) {fc : mM → Option ((Int32 ⊕ Nat) × mM)} {fm : mM → Option (Int32 × mM)} {t : Nat → Int32} {E : Nat} {M1 : mM} {w : Int32} (hc : fc M = some (.inr E, M1)) (c1 : M1 1 1 = 0) (c3 : M1 1 3 = w) (cz : ∀ z, z ≠ 1 → sC z = false → M1 z = M z) (ht : t E ≠ 0) (hm : ∀ Mo : mM, (∀ z, 215 ≤ z → z ≠ 231 → Mo z = M z) → ∃ v M2, fm Mo = some (v, M2) ∧ M2 216 = M 216 ∧ (∀ z, sM z = false → z ≠ 215 → z ≠ 216 → M2 z = Mo z) ∧ M2 231 = Mo 231 ∧ M2 215 0 = t E ∧ M2 215 13 = 0 ∧ M2 215 18 = w ∧ M2 215 6 = Mo 215 6 ∧ M2 215 7 = Mo 215 7) : OpT M fc fm t := by
  refine ⟨.inr E, M1, hc, fun Mo ho => ?_⟩
  have hi : ∀ z, 215 ≤ z → z ≠ 231 → Mo z = M z := fun z z1 z2 => by rw [ho z z2, cz z (by omega) (sC_ge (by omega))]
  obtain ⟨v, M2, e1, e2, e3, e4, e5, e6, e7, e8, e9⟩ := hm Mo hi
  refine ⟨v, M2, e1, e4, ⟨n, ?_⟩, e5, ht⟩
  have lo : ∀ z, z < 215 → M2 z = M1 z := fun z hz => by rw [e3 z (sM_lt (by omega)) (by omega) (by omega), ho z (by omega)]
  refine (h.tx (R1 := M1 1) (v := w) c1 c3).cm (fun z a b z1 z2 => ?_) (fun k hk => ?_) (fun k hk => ?_)
  · rw [mst_no z2, mst_no z2]
    by_cases h1 : z = 1
    · rw [h1, rs_at]; exact lo 1 (by decide)
    · rw [rs_ne h1]
      by_cases h2 : z < 215
      · rw [lo z h2, cz z h1 a]
      · by_cases h6 : z = 216
        · rw [h6]; exact e2
        · rw [e3 z b z2 h6]
          exact hi z (by omega) (fun e => by subst e; cases b)
  · rw [mst_no (by decide), mst_no (by decide), rs_ne (by decide), lo 35 (by decide), cz 35 (by decide) rfl]
  · rcases hk with rfl | rfl | rfl | rfl
    · rw [mst_nk (by decide), mst_nk (by decide), rs_ne (by decide), e8, hi 215 (by decide) (by decide)]
    · rw [mst_nk (by decide), mst_nk (by decide), rs_ne (by decide), e9, hi 215 (by decide) (by decide)]
    · rw [mst_nk (by decide), mst_oo]; exact e6
    · rw [mst_oo]; exact e7
/-- what the reference's reading leaves alone -/
def hM2 (K Y' : mM) : Prop := (∀ z, z ≠ 215 → z ≠ 216 → z ≠ 221 → Y' z = K z) ∧ (Y' 215 6 = K 215 6 ∧ Y' 215 7 = K 215 7 ∧ Y' 215 13 = 0 ∧ Y' 215 0 = 0) ∧ (∀ k, 424 ≤ k → Y' 216 k = K 216 k) ∧ Y' 216 2 = K 216 2 ∧ Y' 216 1 = K 216 1
theorem hM2.of {L : Nat} {K Y' : mM} (g : hM1 (mst (usM K L) 215 20 0) Y') : hM2 K Y' := by
  have e6 : mst (usM K L) 215 20 0 216 = K 216 := by rw [mst_no (by decide), us_z (by decide)]
  refine ⟨fun z z1 z2 _ => by rw [g.1 z z1 z2, mst_no z1, us_z z1], ⟨by rw [g.2.1 6 (by decide) (by decide), mst_nk (by decide), us_k (by decide)], by rw [g.2.1 7 (by decide) (by decide), mst_nk (by decide), us_k (by decide)], by rw [g.2.1 13 (by decide) (by decide), mst_nk (by decide), us_13], by rw [g.2.1 0 (by decide) (by decide), mst_nk (by decide), us_0]⟩, fun k hk => by rw [g.2.2.1 k hk, e6], by rw [g.2.2.2.1, e6], by rw [g.2.2.2.2, e6]⟩
theorem hM2.st {K Y Y' : mM} (g : hM2 K Y) (h : ∀ z, z ≠ 215 → z ≠ 221 → Y' z = Y z) (h5 : ∀ k, k ≠ 16 → Y' 215 k = Y 215 k) : hM2 K Y' := by
  obtain ⟨g1, ⟨g2, g3, g4, g5⟩, g6, g7, g8⟩ := g
  have e6 := h 216 (by decide) (by decide)
  exact ⟨fun z z1 z2 z3 => by rw [h z z1 z3, g1 z z1 z2 z3], ⟨by rw [h5 _ (by decide)]; exact g2, by rw [h5 _ (by decide)]; exact g3, by rw [h5 _ (by decide)]; exact g4, by rw [h5 _ (by decide)]; exact g5⟩, fun k hk => by rw [e6]; exact g6 k hk, by rw [e6]; exact g7, by rw [e6]; exact g8⟩
def tG (r : Option (Int32 × mM)) : Option (Int32 × mM) := b2 r (fun v16 M16 => bif decide (v16 < 0) then f_X12_tower_30 v16 M16 else (b2 (f_X12_stands M16) (fun v19 M19 => bif v19 then f_X12_tower_30 v16 M19 else (wr (mst M19 215 16 (M19 215 15)) (fun M22 => f_X12_tower_30 (-1 : Int32) M22)))))
/-- the whole text, and whether it stands -/
theorem t_fin {L : Nat} {B : Nat → Nat} {X K : mM} (hT : txt L B) (h1 : X 1 1 = nI L) (h2 : ∀ i, i < L → X 2 i = nI (B i)) (hD : DT n X K) (g13 : K 215 13 = nI L) (g223 : ∀ i, i < L → K 223 i = sgn8 (B i)) : ∃ b X' v Y', f_X10_read 47 X = some (b, X') ∧ tG (f_X12_readAll true K) = f_X12_tower_30 v Y' ∧ hC1 X X' ∧ hM2 K Y' ∧ (b = true → ∃ n' k, v = nI k ∧ k ≤ 14 ∧ X' 1 3 = -1 ∧ WF n' (Y' 216) ∧ TS n' (Y' 216) X' 47 ∧ stB n' (Y' 216) (fun _ => 0) = true) ∧ (b = false → v = -1 ∧ Y' 215 16 = X' 1 3) := by
  rcases t_all hT h1 h2 hD g13 g223 with ⟨X1, Y1, n1, k, hk, c1, m1, d1, d2, d3, d4, d5, d6⟩ | ⟨X1, Y1, w, c1, m1, hw, d1, d2, d3, d4⟩
  · obtain ⟨X2, e1, e2, e3, e4⟩ := d4.2.settle T47
    obtain ⟨X3, e5, e6⟩ := e2.1.stands0 T47
    have ez : ∀ z, (z < 47 ∨ 58 < z) → X3 z = X1 z := fun z hz => by rw [e6 z (by omega), e3 z (by omega) (by omega)]
    have hc : f_X10_read 47 X = bif stB n1 (Y1 216) (fun _ => 0) then some (true, X3) else some (false, mst X3 1 3 (nI L)) := by
      rw [c1]
      unfold f_X10_read_39
      rw [show decide ((0 : Int32) = 0) = true from rfl, cond_true, e1, b2_s, e5, b2_s, ez 1 (by decide), d1, C_wrong (show X3 1 3 = -1 by rw [ez 1 (by decide)]; exact d2), b2_s]
      cases stB n1 (Y1 216) (fun _ => 0) <;> rfl
    have hm : tG (f_X12_readAll true K) = bif stB n1 (Y1 216) (fun _ => 0) then f_X12_tower_30 (nI k) (rs Y1 221 (rCar n1 (Y1 216) (Y1 221))) else f_X12_tower_30 (-1) (mst (rs Y1 221 (rCar n1 (Y1 216) (Y1 221))) 215 16 (nI L)) := by
      unfold tG
      rw [m1, b2_s, decide_eq_false (nI_pos (show k < 2 ^ 31 by omega)), cond_false, m_stands d4.1.1 d4.1.2.1, b2_s, stB_in (Y1 221) (fun _ => 0), rs_ne (show 215 ≠ 221 by decide), d3, wr_e]
    have f3 : hC1 X X3 := d5.tr (hC1.of ez)
    have g3 : hM2 K (rs Y1 221 (rCar n1 (Y1 216) (Y1 221))) := (hM2.of d6).st (fun z _ z2 => rs_ne z2) (fun k _ => by rw [rs_ne (by decide)])
    cases hs : stB n1 (Y1 216) (fun _ => 0)
    · rw [hs, cond_false] at hc hm
      refine ⟨false, _, _, _, hc, hm, f3.tr ((fC.st (by decide)).g), g3.st (fun z z1 _ => mst_no z1) (fun k hk => mst_nk hk), fun z => (by cases z), fun _ => ⟨rfl, by rw [mst_oo, mst_oo]⟩⟩
    · rw [hs, cond_true] at hc hm
      refine ⟨true, _, _, _, hc, hm, f3, g3, fun _ => ⟨n1, k, rfl, hk, by rw [ez 1 (by decide)]; exact d2, ?_, ?_, ?_⟩, fun z => (by cases z)⟩
      · rw [rs_ne (by decide)]; exact d4.1
      · rw [rs_ne (by decide)]
        exact e2.mv d4.1.2.1 (eqT.rf fun j hj hj8 => e6 _ (by omega))
      · rw [rs_ne (by decide)]; exact hs
  · refine ⟨false, X1, -1, Y1, c1, ?_, d3, hM2.of d4, fun z => (by cases z), fun _ => ⟨rfl, by rw [d1, d2]⟩⟩
    unfold tG
    rw [m1, b2_s, show decide ((-1 : Int32) < 0) = true from rfl, cond_true]
/-- what failing leaves -/
theorem t_fail {K Y Mo : mM} {w e : Int32} (hK : ∀ z, z ≠ 218 → K z = Mo z) (hK8 : ∀ j, j < 1273 → K 218 j = Mo 216 j) (g : hM2 K Y) : ∃ M2, f_X12_tower_l62 0 (mst (mst Y 215 18 w) 215 0 e) = some (0, M2) ∧ M2 216 = Mo 216 ∧ (∀ z, sM z = false → z ≠ 215 → z ≠ 216 → M2 z = Mo z) ∧ M2 231 = Mo 231 ∧ M2 215 0 = e ∧ M2 215 13 = 0 ∧ M2 215 18 = w ∧ M2 215 6 = Mo 215 6 ∧ M2 215 7 = Mo 215 7 := by
  obtain ⟨g1, ⟨g2, g3, g4, g5⟩, g6, g7, g8⟩ := g
  have ez : ∀ z, z ≠ 215 → mst (mst Y 215 18 w) 215 0 e z = Y z := fun z hz => by rw [mst_no hz, mst_no hz]
  obtain ⟨M2, a, b, c⟩ := M_restored (Y := mst (mst Y 215 18 w) 215 0 e) (Mo := Mo) (fun j hj => by rw [ez 218 (by decide), g1 218 (by decide) (by decide) (by decide)]; exact hK8 j hj) (fun j hj => by rw [ez 216 (by decide), g6 j hj, hK 216 (by decide)])
  have e5 := b 215 (by decide)
  refine ⟨M2, a, c, fun z z0 z1 z2 => ?_, ?_, by rw [e5, mst_oo], ?_, ?_, ?_, ?_⟩
  · rw [b z z2, ez z z1, g1 z z1 z2 (fun e => by subst e; cases z0), hK z (fun e => by subst e; cases z0)]
  · rw [b 231 (by decide), ez 231 (by decide), g1 231 (by decide) (by decide) (by decide), hK 231 (by decide)]
  · rw [e5, mst_nk (by decide), mst_nk (by decide)]; exact g4
  · rw [e5, mst_nk (by decide), mst_oo]
  · rw [e5, mst_nk (by decide), mst_nk (by decide), g2, hK 215 (by decide)]
  · rw [e5, mst_nk (by decide), mst_nk (by decide), g3, hK 215 (by decide)]
theorem Op_tower (h : Rl n M) : OpT M f_X11_tower f_X12_tower tTo := by
  have h8 := h.h8
  obtain ⟨L, B, hT, t1, t2, t3, t4⟩ := h.tp.tx
  obtain ⟨tx, htx, etx⟩ := h.wf.2.2.2.2.1
  obtain ⟨a1, a2, a3⟩ := C_to47 h
  have a4 : cpT 47 35 M 35 7 = nI tx := by rw [a3 35 (by decide), h.ts.1.2.2.2.2.2.2.2.1, etx]
  have hDT : ∀ K : mM, K 216 = M 216 → DT n (cpT 47 35 M) K := fun K e => by
    unfold DT
    rw [e]
    exact ⟨h.wf, a2.1⟩
  have hfin : ∀ K : mM, K 216 = M 216 → K 215 = M 215 → K 223 = M 223 → ∃ b X' v Y', f_X10_read 47 (cpT 47 35 M) = some (b, X') ∧ tG (f_X12_readAll true K) = f_X12_tower_30 v Y' ∧ hC1 (cpT 47 35 M) X' ∧ hM2 K Y' ∧ (b = true → ∃ n' k, v = nI k ∧ k ≤ 14 ∧ X' 1 3 = -1 ∧ WF n' (Y' 216) ∧ TS n' (Y' 216) X' 47 ∧ stB n' (Y' 216) (fun _ => 0) = true) ∧ (b = false → v = -1 ∧ Y' 215 16 = X' 1 3) := fun K e6 e5 e3 => t_fin hT (by rw [a3 1 (by decide)]; exact t1) (fun i hi => by rw [a3 2 (by decide)]; exact t3 i hi) (hDT K e6) (by rw [e5]; exact t2) (fun i hi => by rw [e3]; exact t4 i hi)
  have hC0 : f_X11_tower M = b2 (f_X10_read 47 (cpT 47 35 M)) (fun v2 M2 => wr (mst M2 1 1 (0 : Int32)) (fun M3 => bif v2 then (bif decide ((M3 35 7) < (12 : Int32)) then (wr (mst M3 47 7 ((M3 47 7) + (1 : Int32))) (fun M6 => b2 (f_X9_copyFrom 35 47 M6) (fun v7 M7 => b2 (f_X3_forget M7) (fun v8 M8 => some (.inl (M8 35 7), M8))))) else (some (.inr 1, M3))) else (some (.inr 0, M3)))) := by
    unfold f_X11_tower
    rw [a1, b2_s]
  obtain ⟨b, X3, v0, Y0, hr, -, hc1, hm0, hy0, -⟩ := hfin M rfl rfl rfl
  have cz0 : ∀ z, z ≠ 1 → sC z = false → mst X3 1 1 0 z = M z := fun z z1 z2 => by
    have hz : z < 47 ∨ 58 < z := by
      refine Classical.byContradiction fun hc => ?_
      have : Nat.ble 46 z = true ∧ Nat.ble z 58 = true := ⟨by rw [Nat.ble_eq]; omega, by rw [Nat.ble_eq]; omega⟩
      unfold sC at z2
      rw [this.1, this.2, Bool.and_true, Bool.or_true] at z2
      cases z2
    rw [mst_no z1, hc1.1 z z1 hz, a3 z hz]
  have hKs : ∀ Mo K : mM, (∀ z, 215 ≤ z → z ≠ 231 → Mo z = M z) → (∀ z, z ≠ 218 → K z = Mo z) → K 216 = M 216 ∧ K 215 = M 215 ∧ K 223 = M 223 := fun Mo K ho hK => ⟨by rw [hK 216 (by decide), ho 216 (by decide) (by decide)], by rw [hK 215 (by decide), ho 215 (by decide) (by decide)], by rw [hK 223 (by decide), ho 223 (by decide) (by decide)]⟩
  cases b
  · -- the text is wrong, or what it tells of doesn't stand
    rw [hr, b2_s, wr_e, cond_false] at hC0
    refine OpT.no h (E := 0) (w := X3 1 3) hC0 (mst_oo _ _ _ _) (mst_nk (by decide)) cz0 (by decide) fun Mo ho => ?_
    obtain ⟨K, k1, k2, k3⟩ := M_keep1 (Mo := Mo)
    obtain ⟨s6, s5, s3⟩ := hKs Mo K ho k1
    obtain ⟨b', X', v, Y, hr', hg, -, hm, -, hn⟩ := hfin K s6 s5 s3
    obtain ⟨q1, q2⟩ := Prod.mk.inj (Option.some.inj (hr.symm.trans hr'))
    subst q1 q2
    obtain ⟨rfl, e16⟩ := hn rfl
    obtain ⟨M2, r1, r2, r3, r4, r5, r6, r7, r8, r9⟩ := t_fail (w := X3 1 3) (e := 1) k1 k2 hm
    refine ⟨0, M2, ?_, by rw [r2, ho 216 (by decide) (by decide)], r3, r4, r5, r6, r7, r8, r9⟩
    have hv : f_X12_tower_30 (-1) Y = f_X12_tower_l62 0 (mst (mst Y 215 18 (Y 215 16)) 215 0 1) := by
      unfold f_X12_tower_30 f_X12_tower_37
      rw [show decide ((0 : Int32) ≤ -1) = false from rfl, cond_false, wr_e, cond_false]
      unfold f_X12_tower_44 f_X12_throwsIf
      rw [cond_true, wr_e, b2_s, cond_true]
    rw [e16] at hv
    rw [k3]
    exact (hg.trans hv).trans r1
  · obtain ⟨n0, -, -, -, f0, -, f2, -⟩ := hy0 rfl
    rw [hr, b2_s, wr_e, cond_true, show mst X3 1 1 0 35 7 = nI tx by rw [mst_no (by decide), hc1.1 35 (by decide) (by decide)]; exact a4, show decide (nI tx < (12 : Int32)) = decide (tx < 12) from i_lt (b := 12) (by omega) (by decide)] at hC0
    have m18 : ∀ (k : Nat) (Y : mM), k ≤ 14 → Y 216 1 = nI tx → f_X12_tower_30 (nI k) Y = bif decide (tx < 12) then some (nI (tx + 1), mst (mst (mst Y 215 18 (-1)) 216 1 (nI (tx + 1))) 215 7 0) else f_X12_tower_l62 0 (mst (mst Y 215 18 (-1)) 215 0 2) := fun k Y hk e => by
      unfold f_X12_tower_30 f_X12_tower_37
      rw [i_0le (by omega), cond_true, wr_e, cond_true]
      unfold f_X12_tower_44 f_X12_throwsIf
      rw [cond_false, b2_s, cond_false, show mst Y 215 18 (-1) 216 (ix 1) = nI tx by rw [mst_no (by decide)]; exact e, show (12 : Int32) = nI 12 from rfl, dn, i_eq (by omega) (by omega)]
      by_cases e12 : tx < 12
      · rw [decide_eq_true e12, decide_eq_false (show ¬ tx = 12 by omega), Bool.not_false, cond_true, cond_true]
        unfold f_X12_tower_57 f_X12_throwsIf
        rw [cond_false, b2_s, cond_false, show mst Y 215 18 (-1) 216 (ix 1) = nI tx by rw [mst_no (by decide)]; exact e, i_1, show ix (1 : Int32) = 1 from rfl, wr_e, wr_e, mst_no (show 216 ≠ 215 by decide), mst_oo]
      · rw [decide_eq_false e12, decide_eq_true (show tx = 12 by omega), Bool.not_true, cond_false, cond_false]
        unfold f_X12_tower_57 f_X12_throwsIf
        rw [cond_true, wr_e, b2_s, cond_true]
    by_cases e12 : tx < 12
    · -- it is taken
      rw [decide_eq_true e12, cond_true, wr_e, T_copy T35 T47, b2_s] at hC0
      unfold f_X3_forget at hC0
      rw [wr_e, b2_s] at hC0
      have e47 : X3 47 7 = nI tx := by rw [f2.1.2.2.2.2.2.2.2.1, hm0.2.2.2.2, etx]
      rw [show mst X3 1 1 0 47 7 = nI tx by rw [mst_no (by decide)]; exact e47, i_1] at hC0
      have ev : mst (cpT 35 47 (mst (mst X3 1 1 0) 47 7 (nI (tx + 1)))) 3 2 0 35 7 = nI (tx + 1) := by rw [mst_no (by decide), cpT_0 (by decide) (by decide), mst_oo]
      rw [ev] at hC0
      refine ⟨_, _, hC0, fun Mo ho => ?_⟩
      have cz : ∀ z, z ≠ 1 → z ≠ 3 → (z < 35 ∨ 58 < z) → mst (cpT 35 47 (mst (mst X3 1 1 0) 47 7 (nI (tx + 1)))) 3 2 0 z = M z := fun z z1 z2 z3 => by rw [mst_no z2, cpT_F z (by omega), mst_no (by omega), mst_no z1, hc1.1 z z1 (by omega), a3 z (by omega)]
      have c1 : mst (cpT 35 47 (mst (mst X3 1 1 0) 47 7 (nI (tx + 1)))) 3 2 0 1 = upd (X3 1) 1 0 := by rw [mst_no (by decide), cpT_F 1 (by decide), mst_no (by decide)]; rfl
      have c31 : mst (cpT 35 47 (mst (mst X3 1 1 0) 47 7 (nI (tx + 1)))) 3 2 0 3 1 = M 3 1 := by rw [mst_nk (by decide), cpT_F 3 (by decide), mst_no (by decide), mst_no (by decide), hc1.1 3 (by decide) (by decide), a3 3 (by decide)]
      have c32 : mst (cpT 35 47 (mst (mst X3 1 1 0) 47 7 (nI (tx + 1)))) 3 2 0 3 2 = 0 := mst_oo _ _ _ _
      have c35 : ∀ z, 35 ≤ z → z ≤ 46 → mst (cpT 35 47 (mst (mst X3 1 1 0) 47 7 (nI (tx + 1)))) 3 2 0 z = cpT 35 47 (mst (mst X3 1 1 0) 47 7 (nI (tx + 1))) z := fun z z1 z2 => mst_no (by omega)
      generalize mst (cpT 35 47 (mst (mst X3 1 1 0) 47 7 (nI (tx + 1)))) 3 2 0 = M1 at ho cz c1 c31 c32 c35 ⊢
      have ho2 : ∀ z, 215 ≤ z → z ≠ 231 → Mo z = M z := fun z z1 z2 => by rw [ho z z2, cz z (by omega) (by omega) (by omega)]
      obtain ⟨K, k1, k2, k3⟩ := M_keep1 (Mo := Mo)
      obtain ⟨s6, s5, s3⟩ := hKs Mo K ho2 k1
      obtain ⟨b', X', v, Y, hr', hg, -, hm, hy, -⟩ := hfin K s6 s5 s3
      obtain ⟨q1, q2⟩ := Prod.mk.inj (Option.some.inj (hr.symm.trans hr'))
      subst q1 q2
      obtain ⟨n1, k, rfl, hk, u1, u2, u3, u4⟩ := hy rfl
      obtain ⟨g1, ⟨g2, g3, g4, g5⟩, g6, g7, g8⟩ := hm
      have eY1 : Y 216 1 = nI tx := by rw [g8, s6, etx]
      have hv := m18 k Y hk eY1
      rw [decide_eq_true e12, cond_true] at hv
      have w0 : ∀ z, z ≠ 215 → z ≠ 216 → mst (mst (mst Y 215 18 (-1)) 216 1 (nI (tx + 1))) 215 7 0 z = Y z := fun z z1 z2 => by rw [mst_no z1, mst_no z2, mst_no z1]
      have w216 : mst (mst (mst Y 215 18 (-1)) 216 1 (nI (tx + 1))) 215 7 0 216 = upd (Y 216) 1 (nI (tx + 1)) := by rw [mst_no (by decide)]; show upd (mst Y 215 18 (-1) 216) _ _ = _; rw [mst_no (by decide)]
      have w7 : mst (mst (mst Y 215 18 (-1)) 216 1 (nI (tx + 1))) 215 7 0 215 7 = 0 := mst_oo _ _ _ _
      have w18 : mst (mst (mst Y 215 18 (-1)) 216 1 (nI (tx + 1))) 215 7 0 215 18 = -1 := by rw [mst_nk (by decide), mst_no (by decide), mst_oo]
      have wk : ∀ k, k ≠ 7 → k ≠ 18 → mst (mst (mst Y 215 18 (-1)) 216 1 (nI (tx + 1))) 215 7 0 215 k = Y 215 k := fun k k1 k2 => by rw [mst_nk k1, mst_no (by decide), mst_nk k2]
      refine ⟨_, _, by rw [k3]; exact hg.trans hv, ?_, ⟨n1, ?_⟩, rfl, ?_⟩
      · rw [w0 231 (by decide) (by decide), g1 231 (by decide) (by decide) (by decide), k1 231 (by decide)]
      · generalize mst (mst (mst Y 215 18 (-1)) 216 1 (nI (tx + 1))) 215 7 0 = M2 at w0 w216 w7 w18 wk ⊢
        have lo : ∀ z, z < 215 → M2 z = M1 z := fun z hz => by rw [w0 z (by omega) (by omega), g1 z (by omega) (by omega) (by omega), k1 z (by omega), ho z (by omega)]
        have lo2 : ∀ z, z ≠ 1 → z ≠ 3 → (z < 35 ∨ 58 < z) → z < 215 → M2 z = M z := fun z z1 z2 z3 hz => by rw [lo z hz, cz z z1 z2 z3]
        have hi2 : ∀ z, 216 < z → z ≠ 218 → z ≠ 221 → z ≠ 231 → M2 z = M z := fun z hz z1 z2 z3 => by rw [w0 z (by omega) (by omega), g1 z (by omega) (by omega) z2, k1 z z1, ho2 z (by omega) z3]
        have eP : eqP (Y 216) (upd (Y 216) 1 (nI (tx + 1))) := fun p c hp hc => pv_uo hp hc (by decide)
        have hW : WF n1 (upd (Y 216) 1 (nI (tx + 1))) := u2.hd eP (upd_ne (by decide)) ⟨tx + 1, by omega, upd_at _ _ _⟩ (by rw [upd_ne (by decide)]; exact u2.2.2.2.2.2.1) (by rw [upd_ne (by decide)]; exact u2.2.2.2.2.2.2.1) (by rw [upd_ne (by decide)]; exact u2.2.2.2.2.2.2.2)
        have hTS : TS n1 (upd (Y 216) 1 (nI (tx + 1))) (mst (mst X3 1 1 0) 47 7 (nI (tx + 1))) 47 := by
          have e0 : ∀ k, k ≠ 7 → mst (mst X3 1 1 0) 47 7 (nI (tx + 1)) 47 k = X3 47 k := fun k hk => by rw [mst_nk hk, mst_no (by decide)]
          have := u3.1
          refine u3.hd u2.2.1 eP (e0 _ (by decide)) (e0 _ (by decide)) (e0 _ (by decide)) ?_ ?_ ?_ ?_ ?_ (e0 _ (by decide)) (fun z z1 z2 => by rw [mst_no (by omega), mst_no (by omega)]) (upd_ne (by decide)) (fun k hk _ => upd_ne (by omega))
          · rw [e0 _ (by decide), upd_ne (by decide)]; exact this.2.2.2.1
          · rw [e0 _ (by decide), upd_ne (by decide)]; exact this.2.2.2.2.1
          · rw [e0 _ (by decide), upd_ne (by decide)]; exact this.2.2.2.2.2.1
          · rw [e0 _ (by decide), upd_ne (by decide)]; exact this.2.2.2.2.2.2.1
          · rw [mst_oo, upd_at]
        refine ⟨by rw [w216]; exact hW, by rw [w216, eP.st]; exact u4, ?_, ?_, ?_, ?_, ?_⟩
        · rw [w216]
          refine (hTS.mv u2.2.1 (cpT_e (a := 35) (b := 47) (by decide))).mv u2.2.1 (eqT.rf fun j hj _ => ?_)
          rw [lo _ (by omega), c35 _ (by omega) (by omega)]
        · rw [w216]
          refine (h.lw.eq2 ?_ fun k hk _ => ?_).rf fun j hj => lo2 _ (by omega) (by omega) (by omega) (by omega)
          · rw [upd_ne (by decide), g7, s6]
          · rw [upd_ne (by omega), g6 k hk, s6]
        · refine ⟨0, Nat.zero_le _, by rw [lo 1 (by decide), c1]; rfl, by rw [wk 13 (by decide) (by decide), g4]; rfl, ?_, fun i hi => absurd hi (Nat.not_lt_zero i)⟩
          rw [lo 1 (by decide), c1, w18, upd_ne (by decide)]
          exact u1
        · refine h.im.mv ?_ ?_ (hi2 217 (by decide) (by decide) (by decide) (by decide)) (fun z z1 z2 => lo2 z (by omega) (by omega) (by omega) (by omega)) (fun z z1 z2 => lo2 z (by omega) (by omega) (by omega) (by omega))
          · rw [lo2 0 (by decide) (by decide) (by decide) (by decide)]
          · rw [wk 6 (by decide) (by decide), g2, s5]
        · obtain ⟨x, c, p1, p2, p3, p4, p5, p6⟩ := h.ps
          exact ⟨x, 0, p1, Nat.zero_le _, by rw [lo 3 (by decide), c31]; exact p3, by rw [lo 3 (by decide), c32]; rfl, by rw [w7]; rfl, fun j hj => absurd hj (Nat.not_lt_zero j)⟩
      · rw [wk 0 (by decide) (by decide)]; exact g5
    · -- twelve have been taken
      rw [decide_eq_false e12, cond_false] at hC0
      refine OpT.no h (E := 1) (w := -1) hC0 (mst_oo _ _ _ _) ((mst_nk (by decide)).trans f0) cz0 (by decide) fun Mo ho => ?_
      obtain ⟨K, k1, k2, k3⟩ := M_keep1 (Mo := Mo)
      obtain ⟨s6, s5, s3⟩ := hKs Mo K ho k1
      obtain ⟨b', X', v, Y, hr', hg, -, hm, hy, -⟩ := hfin K s6 s5 s3
      obtain ⟨q1, q2⟩ := Prod.mk.inj (Option.some.inj (hr.symm.trans hr'))
      subst q1 q2
      obtain ⟨n1, k, rfl, hk, -, -, -, -⟩ := hy rfl
      have hv := m18 k Y hk (by rw [hm.2.2.2.2, s6, etx])
      rw [decide_eq_false e12, cond_false] at hv
      obtain ⟨M2, r1, r2, r3, r4, r5, r6, r7, r8, r9⟩ := t_fail (w := -1) (e := 2) k1 k2 hm
      refine ⟨0, M2, ?_, by rw [r2, ho 216 (by decide) (by decide)], r3, r4, r5, r6, r7, r8, r9⟩
      rw [k3]
      exact (hg.trans hv).trans r1
end
