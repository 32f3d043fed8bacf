/-! the tape is used up; the rows of reliefs are read -/
section
variable {n : Nat} {M : mM}
theorem sC_ge {z : Nat} (h : 59 ≤ z) : sC z = false := by
  unfold sC
  simp only [Bool.or_eq_false_iff, Bool.and_eq_false_iff]
  have b1 : Nat.ble z 16 = false := by cases e : Nat.ble z 16 with | false => rfl | true => exact absurd (Nat.ble_eq.mp e) (by omega)
  have b2 : Nat.ble z 28 = false := by cases e : Nat.ble z 28 with | false => rfl | true => exact absurd (Nat.ble_eq.mp e) (by omega)
  have b3 : Nat.ble z 58 = false := by cases e : Nat.ble z 58 with | false => rfl | true => exact absurd (Nat.ble_eq.mp e) (by omega)
  have b4 : Nat.beq z 34 = false := by cases e : Nat.beq z 34 with | false => rfl | true => exact absurd (Nat.eq_of_beq_eq_true e) (by omega)
  have b5 : Nat.beq z 43 = false := by cases e : Nat.beq z 43 with | false => rfl | true => exact absurd (Nat.eq_of_beq_eq_true e) (by omega)
  exact ⟨⟨⟨⟨Or.inr b1, Or.inr b2⟩, b4⟩, b5⟩, Or.inr b3⟩
theorem Rl.use (h : Rl n M) : Rl n (mst (mst M 1 1 0) 215 13 0) := by
  have h8 := h.h8
  have eZ : ∀ z, z ≠ 1 → z ≠ 215 → mst (mst M 1 1 0) 215 13 0 z = M z := fun z z1 z2 => by rw [mst_no z2, mst_no z1]
  have e5 : ∀ k, k ≠ 13 → mst (mst M 1 1 0) 215 13 0 215 k = M 215 k := fun k hk => by rw [mst_nk hk, mst_no (by decide)]
  have e1 : mst (mst M 1 1 0) 215 13 0 1 3 = M 1 3 := by rw [mst_no (by decide), mst_nk (by decide)]
  have e11 : mst (mst M 1 1 0) 215 13 0 1 1 = nI 0 := by rw [mst_no (by decide), mst_oo]; rfl
  have e13 : mst (mst M 1 1 0) 215 13 0 215 13 = nI 0 := mst_oo _ _ _ _
  generalize mst (mst M 1 1 0) 215 13 0 = M' at eZ e5 e1 e11 e13 ⊢
  obtain ⟨L, hL, t1, t2, t3, t4⟩ := id h.tp
  have e216 : M' 216 = M 216 := eZ 216 (by decide) (by decide)
  refine ⟨by rw [e216]; exact h.1, by rw [e216]; exact h.2.1, by rw [e216]; exact h.ts.in216 h8 fun z z1 z2 => eZ z (by omega) (by omega), by rw [e216]; exact h.lw.rf fun j hj => eZ _ (by omega) (by omega), ⟨0, Nat.zero_le _, e11, e13, by rw [e1, e5 18 (by decide)]; exact t3, fun i hi => absurd hi (Nat.not_lt_zero i)⟩, ?_, ?_⟩
  · exact h.im.mv (by rw [eZ 0 (by decide) (by decide)]) (e5 _ (by decide)) (eZ 217 (by decide) (by decide)) (fun z z1 z2 => eZ z (by omega) (by omega)) (fun z z1 z2 => eZ z (by omega) (by omega))
  · obtain ⟨y, c, hCp, hMp⟩ := h.ps.out
    exact Ps.mk (Mc := M') (Mm := M) (hCp.mv fun z hz => eZ z (by omega) (by omega)) hMp (fun z _ => rfl) (e5 _ (by decide)) (eZ 220 (by decide) (by decide)) (by rw [e216])
theorem CQ.m13 {A B : mM} {v : Int32} (h : CQ A B) : CQ (mst A 215 13 v) (mst B 215 13 v) := ⟨fun z a b => by
  by_cases hz : z = 215
  · subst hz
    funext j
    by_cases hj : j = 13
    · rw [hj, mst_oo, mst_oo]
    · rw [mst_nk hj, mst_nk hj, h.1 215 rfl (by decide)]
  · rw [mst_no hz, mst_no hz]; exact h.1 z a b, fun k hk => by rw [mst_no (by decide), mst_no (by decide)]; exact h.2 k hk⟩
theorem RQ.m13 {A B : mM} {v : Int32} (h : RQ A B) : RQ (mst A 215 13 v) (mst B 215 13 v) := ⟨fun z a b => by rw [mst_no b, mst_no b]; exact h.1 z a b, fun k hk => by
  by_cases hj : k = 13
  · rw [hj, mst_oo, mst_oo]
  · rw [mst_nk hj, mst_nk hj]; exact h.2 k hk⟩
/-- an op that uses the tape up -/
theorem OpT.u {fc : mM → Option ((Int32 ⊕ Nat) × mM)} {fm : mM → Option (Int32 × mM)} {t : Nat → Int32} (h : Rl n M) {r : Int32 ⊕ Nat} {M1 : mM} (hc : fc M = some (r, M1)) (hq : CQ (mst M 1 1 0) M1) (hm : ∀ Mo : mM, (∀ z, 215 ≤ z → z ≠ 231 → Mo z = M z) → ∃ v M2, fm Mo = some (v, M2) ∧ RQ (mst Mo 215 13 0) M2 ∧ M2 231 = Mo 231 ∧ Rsp t r v (M2 215 0)) : OpT M fc fm t := by
  refine ⟨r, M1, hc, fun Mo ho => ?_⟩
  have hi : ∀ z, 215 ≤ z → z ≠ 231 → Mo z = M z := fun z z1 z2 => by rw [ho z z2, hq.1 z (sC_ge (by omega)) (by omega), mst_no (by omega)]
  obtain ⟨v, M2, e1, e2, e3, e4⟩ := hm Mo hi
  have h1 : Rl n (mst M1 215 13 0) := h.use.cq hq.m13
  have h2 : RQ M1 Mo := ⟨fun z a b => ho z (fun e => by subst e; cases a), fun k _ => by rw [ho 215 (by decide)]⟩
  exact ⟨v, M2, e1, e3, ⟨n, (h1.mq h2.m13).mq e2⟩, e4⟩
def usM (Mo : mM) (L : Nat) : mM := mst (mst (mst (mst Mo 215 0 0) 215 15 (nI L)) 215 13 0) 215 14 0
theorem m_uses {Mo : mM} {L : Nat} (e : Mo 215 13 = nI L) : f_X12_uses Mo = some ((), usM Mo L) := by
  unfold f_X12_uses usM
  rw [wr_e, wr_e, mst_nk (show 13 ≠ 0 by decide), e, wr_e, wr_e]
theorem us_0 {Mo : mM} {L : Nat} : usM Mo L 215 0 = 0 := by unfold usM; rw [mst_nk (by decide), mst_nk (by decide), mst_nk (by decide), mst_oo]
theorem us_15 {Mo : mM} {L : Nat} : usM Mo L 215 15 = nI L := by unfold usM; rw [mst_nk (by decide), mst_nk (by decide), mst_oo]
theorem us_13 {Mo : mM} {L : Nat} : usM Mo L 215 13 = 0 := by unfold usM; rw [mst_nk (by decide), mst_oo]
theorem us_14 {Mo : mM} {L : Nat} : usM Mo L 215 14 = 0 := mst_oo _ _ _ _
theorem us_z {Mo : mM} {L z : Nat} (h : z ≠ 215) : usM Mo L z = Mo z := by unfold usM; rw [mst_no h, mst_no h, mst_no h, mst_no h]
theorem us_k {Mo : mM} {L k : Nat} (h : k ≠ 0 ∧ k ≠ 13 ∧ k ≠ 14 ∧ k ≠ 15) : usM Mo L 215 k = Mo 215 k := by unfold usM; rw [mst_nk h.2.2.1, mst_nk h.2.1, mst_nk h.2.2.2, mst_nk h.1]
theorem rq_us {Mo : mM} {L : Nat} : RQ (mst Mo 215 13 0) (usM Mo L) := ⟨fun z _ b => by rw [us_z b, mst_no b], fun k hk => by
  by_cases h : k = 13
  · rw [h, us_13, mst_oo]
  · rw [us_k (by omega), mst_nk h]⟩
/-- bytes, in the reference's way -/
theorem sg_lo {b : Nat} (h : b < 128) : sgn8 b = nI b := (by decide +kernel : ∀ b, b < 128 → sgn8 b = nI b) b h
theorem sg_hi {b : Nat} (h : b < 256) (h1 : 128 ≤ b) : sgn8 b < 0 := by
  have := (by decide +kernel : ∀ i, i < 128 → decide (sgn8 (128 + i) < 0) = true) (b - 128) (by omega)
  rw [show 128 + (b - 128) = b by omega] at this
  exact of_decide_eq_true this
theorem sg_P {b : Nat} (h8 : n ≤ 8) (h : b < 256) : isP n (sgn8 b) = decide (b < n) := by
  by_cases h1 : b < 128
  · rw [sg_lo h1]
    by_cases hb : b < n
    · rw [isP_nI h8 hb, decide_eq_true hb]
    · rw [isP_ge (by omega) (by omega), decide_eq_false hb]
  · rw [decide_eq_false (by omega)]
    unfold isP
    rw [decide_eq_true (sg_hi h (by omega))]
    rfl
/-- what is told by the first k bytes, and whether that is right -/
def tdS (B : Nat → Nat) : Nat → Int32
  | 0 => 0
  | k + 1 => tdS B k ||| f_X11_bit (nI (B k))
def okG (n : Nat) (B : Nat → Nat) : Nat → Bool
  | 0 => true
  | k + 1 => okG n B k && (decide (B k < n) && !hs (tdS B k) (B k))
theorem okG_s (n : Nat) (B : Nat → Nat) (k : Nat) : okG n B (k + 1) = (okG n B k && (decide (B k < n) && !hs (tdS B k) (B k))) := rfl
theorem okG_lt {B : Nat → Nat} {k : Nat} : ∀ {m : Nat}, k ≤ m → okG n B m = true → okG n B k = true := by
  intro m
  induction m with
  | zero => intro h1 h; rw [show k = 0 by omega]; exact h
  | succ m ih =>
    intro h1 h
    by_cases hk : k = m + 1
    · rw [hk]; exact h
    · rw [okG_s, Bool.and_eq_true] at h
      exact ih (by omega) h.1
theorem okG_n {B : Nat → Nat} {k m : Nat} (hk : k < m) (h : okG n B m = true) : B k < n := by
  have := okG_lt (show k + 1 ≤ m from hk) h
  rw [okG_s, Bool.and_eq_true, Bool.and_eq_true] at this
  exact of_decide_eq_true this.2.1
theorem tdS_h {B : Nat → Nat} (hB : ∀ i, B i < 32) {x : Nat} (hx : x < 32) : ∀ k, hs (tdS B k) x = exK (fun i => decide (B i = x)) k := by
  intro k
  induction k with
  | zero => exact hs_0 x
  | succ k ih =>
    show hs (tdS B k ||| f_X11_bit (nI (B k))) x = _
    rw [hs_or, ih, exK_s, hs_bit (hB k) hx]
theorem tdS_x {B : Nat → Nat} {m : Nat} (hB : ∀ i, i < m → B i < 32) {x : Nat} (hx : x < 32) : ∀ k, k ≤ m → (hs (tdS B k) x = true ↔ ∃ i, i < k ∧ B i = x) := by
  intro k
  induction k with
  | zero =>
    intro _
    rw [show hs (tdS B 0) x = false from hs_0 x]
    exact ⟨fun h => (by cases h), fun ⟨i, hi, _⟩ => absurd hi (Nat.not_lt_zero i)⟩
  | succ k ih =>
    intro hk
    rw [show tdS B (k + 1) = tdS B k ||| f_X11_bit (nI (B k)) from rfl, hs_or, hs_bit (hB k (by omega)) hx, Bool.or_eq_true, ih (by omega)]
    constructor
    · rintro (⟨i, hi, e⟩ | h)
      · exact ⟨i, by omega, e⟩
      · exact ⟨k, by omega, of_decide_eq_true h⟩
    · rintro ⟨i, hi, e⟩
      by_cases h : i = k
      · subst h; exact Or.inr (decide_eq_true e)
      · exact Or.inl ⟨i, by omega, e⟩
theorem okG_ne {B : Nat → Nat} (h8 : n ≤ 8) {i j m : Nat} (hij : i < j) (hj : j < m) (h : okG n B m = true) : B i ≠ B j := fun e => by
  have h1 := okG_lt (show j + 1 ≤ m from hj) h
  rw [okG_s, Bool.and_eq_true, Bool.and_eq_true] at h1
  have hB : ∀ i, i < j → B i < 32 := fun i hi => by have := okG_n (n := n) (show i < m by omega) h; omega
  have h2 := (tdS_x (m := j) hB (x := B j) (by have := okG_n (n := n) hj h; omega) j (Nat.le_refl j)).mpr ⟨i, hij, e⟩
  rw [h2] at h1
  exact absurd h1.2.2 (by decide)
/-- where it goes wrong -/
theorem okG_first {B : Nat → Nat} : ∀ {m : Nat}, okG n B m = false → ∃ k, k < m ∧ okG n B k = true ∧ okG n B (k + 1) = false := by
  intro m
  induction m with
  | zero => intro h; cases h
  | succ m ih =>
    intro h
    cases c : okG n B m
    · obtain ⟨k, h1, h2, h3⟩ := ih c
      exact ⟨k, by omega, h2, h3⟩
    · exact ⟨m, by omega, c, h⟩
theorem i_ge {a b : Nat} (ha : a < 2 ^ 31) (hb : b < 2 ^ 31) : decide (nI b ≤ nI a) = !decide (a < b) := by
  rw [i_le hb ha]
  by_cases h : a < b
  · rw [decide_eq_true h, decide_eq_false (by omega)]; rfl
  · rw [decide_eq_false h, decide_eq_true (by omega)]; rfl
theorem C_byteAt {N : mM} {L i b : Nat} (hL : L ≤ 400) (h1 : N 1 1 = nI L) (hi : i < L) (hb : N 2 i = nI b) : f_X7_byteAt (nI i) N = some (nI b) := by
  unfold f_X7_byteAt
  rw [decide_eq_false (nI_pos (by omega)), cond_false, h1, i_ge (by omega) (by omega), decide_eq_true hi, Bool.not_true, cond_false, show decide ((400 : Int32) ≤ nI i) = false from i_lit (a := 400) (by decide) (by omega), cond_false, gd_t (i_in (by omega) (by decide)), i_ix (by omega), hb]
theorem i_2d {i : Nat} (h : i < 100) : nI i / (2 : Int32) = nI (i / 2) := pk_div (d := 2) (by omega) (by decide) (by decide)
theorem i_2m {i : Nat} (h : i < 2 ^ 31) : rmd (nI i) (2 : Int32) = nI (i % 2) := rmd_n (d := 2) h (by decide) (by decide)
def tell1 (N : mM) (i : Nat) (v : Int32) : mM := if i % 2 = 0 then mst N 14 (i / 2) v else mst N 15 (i / 2) v
theorem C_tellOne {N : mM} {i : Nat} {v : Int32} (hi : i < 8) : f_X4_tellOne (nI i) v N = some ((), tell1 N i v) := by
  unfold f_X4_tellOne
  rw [i_2d (by omega), decide_eq_false (nI_pos (by omega)), cond_false, show decide (nI (i / 2) < (4 : Int32)) = true from (i_lt (b := 4) (by omega) (by decide)).trans (decide_eq_true (by omega)), cond_true, i_2m (by omega), dn, gd_t (i_in (by omega) (by decide)), gd_t (i_in (by omega) (by decide)), wr_e, wr_e, i_ix (by omega)]
  unfold tell1
  by_cases h : i % 2 = 0
  · rw [if_pos h, h]; rfl
  · rw [if_neg h, show i % 2 = 1 by omega]; rfl
theorem tell1_z {N : mM} {i z : Nat} {v : Int32} (h4 : z ≠ 14) (h5 : z ≠ 15) : tell1 N i v z = N z := by
  unfold tell1
  by_cases h : i % 2 = 0
  · rw [if_pos h, mst_no h4]
  · rw [if_neg h, mst_no h5]
theorem C_rread {N : mM} {L : Nat} {B : Nat → Nat} (h8 : n ≤ 8) (hL : L ≤ 8) (h1 : N 1 1 = nI L) (hB : ∀ i, i < L → N 2 i = nI (B i) ∧ B i < 256) : ∃ M1, f_X4_read_l18 (nI n) 0 0 N = some (okG n B L, M1) ∧ (∀ z, z ≠ 13 → z ≠ 14 → z ≠ 15 → M1 z = N z) ∧ (okG n B L = true → M1 13 3 = nI (L / 2) ∧ ∀ i, i < L → M1 (14 + i % 2) (i / 2) = nI (B i)) := by
  let P : Nat → Int32 × Int32 × mM → Prop := fun k s => s.1 = tdS B (min k L) ∧ s.2.1 = nI k ∧ (∀ z, z ≠ 14 → z ≠ 15 → s.2.2 z = N z) ∧ ∀ i, i < min k L → s.2.2 (14 + i % 2) (i / 2) = nI (B i)
  have st : ∀ k, k < 8 → (k < L → okG n B (k + 1) = true) → ∀ s, P k s → ∃ s', f_X4_read_18 (nI n) s.1 s.2.1 s.2.2 = some (.inr s') ∧ P (k + 1) s' := fun k hk hok s hs' => by
    obtain ⟨a, b, X⟩ := s
    obtain ⟨h2, h3, h4, h5⟩ := hs'
    dsimp only at h2 h3 h4 h5
    subst h2 h3
    show ∃ s', f_X4_read_18 (nI n) (tdS B (min k L)) (nI k) X = some (.inr s') ∧ _
    have e11 : X 1 1 = nI L := by rw [h4 1 (by decide) (by decide)]; exact h1
    unfold f_X4_read_18
    rw [bif_f (i_8 hk), e11, i_ge (by omega) (by omega), i_1]
    by_cases hkL : k < L
    · have g := hok hkL
      rw [okG_s, Bool.and_eq_true, Bool.and_eq_true] at g
      have hbn := of_decide_eq_true g.2.1
      obtain ⟨b1, b2⟩ := hB k hkL
      rw [decide_eq_true hkL, Bool.not_true, cond_false, C_byteAt (by omega) e11 hkL (by rw [h4 2 (by decide) (by decide)]; exact b1), b1_s, decide_eq_false (nI_pos (by omega)), cond_false, i_ge (by omega) (by omega), decide_eq_true hbn, Bool.not_true, cond_false, Nat.min_eq_left (by omega), has_hs (by omega)]
      have hh : hs (tdS B k) (B k) = false := by
        cases c : hs (tdS B k) (B k)
        · rfl
        · rw [c] at g; exact absurd g.2.2 (by decide)
      rw [hh, cond_false, C_tellOne hk, b2_s]
      refine ⟨_, rfl, ?_, rfl, fun z z1 z2 => (tell1_z z1 z2).trans (h4 z z1 z2), fun i hi => ?_⟩
      · rw [Nat.min_eq_left (by omega)]; rfl
      · rw [Nat.min_eq_left (by omega)] at hi h5
        show tell1 X k (nI (B k)) (14 + i % 2) (i / 2) = _
        by_cases hik : i = k
        · subst hik
          unfold tell1
          by_cases h : i % 2 = 0
          · rw [if_pos h, h, mst_oo]
          · rw [if_neg h, show i % 2 = 1 by omega, mst_oo]
        · rw [← h5 i (by omega)]
          unfold tell1
          by_cases h : k % 2 = 0
          · rw [if_pos h]
            by_cases h' : i % 2 = 0
            · rw [h', mst_nk (by omega)]
            · rw [mst_no (by omega)]
          · rw [if_neg h]
            by_cases h' : i % 2 = 0
            · rw [mst_no (by omega)]
            · rw [show 14 + i % 2 = 15 by omega, mst_nk (by omega)]
    · rw [decide_eq_false hkL, Bool.not_false, cond_true]
      refine ⟨_, rfl, ?_, rfl, h4, fun i hi => h5 i (by omega)⟩
      rw [show min (k + 1) L = min k L by omega]
  have h00 : P 0 (0, 0, N) := ⟨by rw [Nat.zero_min]; rfl, rfl, fun _ _ _ => rfl, fun i hi => absurd hi (by omega)⟩
  unfold f_X4_read_l18
  cases c : okG n B L
  · obtain ⟨k, k1, k2, k3⟩ := okG_first c
    obtain ⟨r, e1, M1, e2, e3⟩ := wh_P (b := fun s : Int32 × Int32 × mM => f_X4_read_18 (nI n) s.1 s.2.1 s.2.2) P (fun r => ∃ M1, r = (false, M1) ∧ ∀ z, z ≠ 14 → z ≠ 15 → M1 z = N z) k 100000 (0, 0, N) h00 (fun j hj s hs' => st j (by omega) (fun _ => okG_lt (by omega) k2) s hs') (fun s hs' => by
      obtain ⟨a, b, X⟩ := s
      obtain ⟨h2, h3, h4, h5⟩ := hs'
      dsimp only at h2 h3 h4 h5
      subst h2 h3
      show ∃ r, f_X4_read_18 (nI n) (tdS B (min k L)) (nI k) X = some (.inl r) ∧ _
      have e11 : X 1 1 = nI L := by rw [h4 1 (by decide) (by decide)]; exact h1
      obtain ⟨b1, b2⟩ := hB k k1
      unfold f_X4_read_18
      rw [bif_f (i_8 (by omega)), e11, i_ge (by omega) (by omega), decide_eq_true k1, Bool.not_true, cond_false, C_byteAt (by omega) e11 k1 (by rw [h4 2 (by decide) (by decide)]; exact b1), b1_s, decide_eq_false (nI_pos (by omega)), cond_false, i_ge (by omega) (by omega)]
      rw [okG_s, k2, Bool.true_and] at k3
      by_cases hbn : B k < n
      · rw [decide_eq_true hbn, Bool.true_and] at k3
        rw [decide_eq_true hbn, Bool.not_true, cond_false, Nat.min_eq_left (by omega), has_hs (by omega)]
        have hh : hs (tdS B k) (B k) = true := by
          cases c : hs (tdS B k) (B k)
          · rw [c] at k3; cases k3
          · rfl
        rw [hh, cond_true]
        exact ⟨_, rfl, _, rfl, h4⟩
      · rw [decide_eq_false hbn, Bool.not_false, cond_true]
        exact ⟨_, rfl, _, rfl, h4⟩) (by omega)
    subst e2
    exact ⟨M1, e1, fun z _ z2 z3 => e3 z z2 z3, fun h => by cases h⟩
  · obtain ⟨r, e1, M1, e2, e3, e4⟩ := wh_P (b := fun s : Int32 × Int32 × mM => f_X4_read_18 (nI n) s.1 s.2.1 s.2.2) P (fun r => ∃ M1, r = (true, M1) ∧ (∀ z, z ≠ 13 → z ≠ 14 → z ≠ 15 → M1 z = N z) ∧ (M1 13 3 = nI (L / 2) ∧ ∀ i, i < L → M1 (14 + i % 2) (i / 2) = nI (B i))) 8 100000 (0, 0, N) h00 (fun j hj s hs' => st j hj (fun _ => okG_lt (by omega) c) s hs') (fun s hs' => by
      obtain ⟨a, b, X⟩ := s
      obtain ⟨h2, h3, h4, h5⟩ := hs'
      dsimp only at h2 h3 h4 h5
      subst h2 h3
      show ∃ r, f_X4_read_18 (nI n) (tdS B (min 8 L)) (nI 8) X = some (.inl r) ∧ _
      have e11 : X 1 1 = nI L := by rw [h4 1 (by decide) (by decide)]; exact h1
      unfold f_X4_read_18
      rw [bif_t i_88, wr_e, e11, i_2d (by omega)]
      refine ⟨_, rfl, _, rfl, fun z z1 z2 z3 => (mst_no z1).trans (h4 z z2 z3), mst_oo _ _ _ _, fun i hi => ?_⟩
      rw [mst_no (by omega)]
      exact h5 i (by omega)) (by decide)
    subst e2
    exact ⟨M1, e1, e3, fun _ => e4⟩
/-- and by the reference -/
theorem m_isGuard {N : mM} {L : Nat} {B : Nat → Nat} (hn : N 216 0 = nI n) (h8 : n ≤ 8) (hL : L ≤ 400) (h15 : N 215 15 = nI L) (hB : ∀ i, i < L → N 223 i = sgn8 (B i) ∧ B i < 256) : f_X12_isGuard N = some (decide (L % 2 = 0) && (decide (L ≤ 8) && okG n B L)) := by
  have no : ∀ x y, f_X12_isGuard_l17 0 x y N = some false := fun x y => by
    unfold f_X12_isGuard_l17
    refine wh_1 ?_
    show f_X12_isGuard_17 0 x y N = _
    unfold f_X12_isGuard_17
    cases decide (N 215 15 ≤ y) <;> rfl
  have st : ∀ k, k < L → okG n B (k + 1) = true → f_X12_isGuard_17 1 (tdS B k) (nI k) N = some (.inr (1, tdS B (k + 1), nI (k + 1))) := fun k hk hok => by
    rw [okG_s, Bool.and_eq_true, Bool.and_eq_true] at hok
    have hbn := of_decide_eq_true hok.2.1
    obtain ⟨b1, b2⟩ := hB k hk
    unfold f_X12_isGuard_17
    rw [h15, i_ge (by omega) (by omega), decide_eq_true hk, Bool.not_true, cond_false, show decide ((1 : Int32) = 0) = false from rfl, cond_false, gd_t (i_in (by omega) (by decide)), i_ix (by omega), b1, M_nobody hn h8, sg_P h8 b2, decide_eq_true hbn, b1_s, Bool.not_true, cond_false, gd_t (i_in (by omega) (by decide)), sg_lo (by omega), mhas_hs (by omega)]
    have hh : hs (tdS B k) (B k) = false := by
      cases c : hs (tdS B k) (B k)
      · rfl
      · rw [c] at hok; exact absurd hok.2.2 (by decide)
    rw [hh, cond_false]
    unfold f_X12_isGuard_40
    rw [cond_true, gd_t (i_in (by omega) (by decide)), i_ix (by omega), b1, sg_lo (by omega), bitE, i_1]
    rfl
  have yes : f_X12_isGuard_l17 1 0 0 N = some (okG n B L) := by
    cases c : okG n B L
    · obtain ⟨k, k1, k2, k3⟩ := okG_first c
      rw [okG_s, k2, Bool.true_and] at k3
      obtain ⟨b1, b2⟩ := hB k k1
      unfold f_X12_isGuard_l17
      refine wh_ne (fun j => if j ≤ k then (1, tdS B j, nI j) else (0, tdS B k ||| 0, nI (k + 1))) (k + 1) _ (by omega) (by rw [if_pos (Nat.zero_le k)]; rfl) (fun j hj => ?_) ?_
      · rw [if_pos (by omega)]
        by_cases hjk : j = k
        · subst hjk
          rw [if_neg (by omega)]
          show f_X12_isGuard_17 1 (tdS B j) (nI j) N = _
          have last : f_X12_isGuard_39 (tdS B j) (nI j) N = some (.inr (0, tdS B j ||| 0, nI (j + 1))) := by
            unfold f_X12_isGuard_39 f_X12_isGuard_40
            rw [cond_false, i_1]
            rfl
          unfold f_X12_isGuard_17
          rw [h15, i_ge (by omega) (by omega), decide_eq_true k1, Bool.not_true, cond_false, show decide ((1 : Int32) = 0) = false from rfl, cond_false, gd_t (i_in (by omega) (by decide)), i_ix (by omega), b1, M_nobody hn h8, sg_P h8 b2, b1_s, last]
          by_cases hbn : B j < n
          · rw [decide_eq_true hbn, Bool.true_and] at k3
            have hh : hs (tdS B j) (B j) = true := by
              cases c : hs (tdS B j) (B j)
              · rw [c] at k3; cases k3
              · rfl
            rw [decide_eq_true hbn, Bool.not_true, cond_false, gd_t (i_in (by omega) (by decide)), sg_lo (by omega), mhas_hs (by omega), hh, cond_true]
          · rw [decide_eq_false hbn, Bool.not_false, cond_true]
        · rw [if_pos (by omega)]
          exact st j (by omega) (okG_lt (by omega) k2)
      · rw [if_neg (by omega)]
        show f_X12_isGuard_17 0 (tdS B k ||| 0) (nI (k + 1)) N = _
        unfold f_X12_isGuard_17
        cases decide (N 215 15 ≤ nI (k + 1)) <;> rfl
    · unfold f_X12_isGuard_l17
      refine wh_ne (fun j => (1, tdS B j, nI j)) L _ (by omega) rfl (fun j hj => st j hj (okG_lt (by omega) c)) ?_
      show f_X12_isGuard_17 1 (tdS B L) (nI L) N = _
      unfold f_X12_isGuard_17
      rw [h15, i_lee, cond_true]
      rfl
  unfold f_X12_isGuard
  rw [h15, i_2m (by omega), dn, yes, no, show decide ((8 : Int32) < nI L) = decide (8 < L) from i_lt (a := 8) (by decide) (by omega)]
  by_cases h2 : L % 2 = 0
  · rw [h2, decide_eq_true rfl, show decide (nI 0 = (0 : Int32)) = true from rfl, Bool.not_true, cond_false, Bool.true_and]
    by_cases h8' : L ≤ 8
    · rw [decide_eq_true h8', decide_eq_false (by omega), cond_false, Bool.true_and]
    · rw [decide_eq_false h8', decide_eq_true (by omega), cond_true, Bool.false_and]
  · rw [show L % 2 = 1 by omega, show decide (nI 1 = (0 : Int32)) = false from rfl, Bool.not_false, cond_true, decide_eq_false (by decide), Bool.false_and]
end
