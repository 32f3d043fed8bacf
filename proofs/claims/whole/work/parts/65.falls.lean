/-! what falls if one lets go: falls, rounds, fallen, key -/
section
variable {n : Nat} {M : mM}
/-- the world without one -/
def wo1 (n : Nat) (W : Nat → Int32) (k : Nat) : Nat → Int32 := wDown n W (f_X11_bit (nI k))
def faN (n : Nat) (W : Nat → Int32) (k : Nat) : Nat := fF n (wo1 n W k) (fK n (wo1 n W k))
def faR (n : Nat) (W : Nat → Int32) (k : Nat) : Nat := fK n (wo1 n W k)
def faA (n : Nat) (W : Nat → Int32) (k : Nat) : Nat → Int32 := fA n (wo1 n W k) (fK n (wo1 n W k))
theorem faN_le {W : Nat → Int32} (h8 : n ≤ 8) (k : Nat) : faN n W k ≤ 8 := fF_le h8 _
theorem C_fallOf {W : Nat → Int32} (hw : WF n W) {N : mM} (ht : TS n W N 35) (k : Nat) : ∃ M1, f_X11_fallOf (nI k) N = some (nI (faN n W k + 1), M1) ∧ M1 47 19 = nI (faR n W k) ∧ (∀ i, i < faN n W k → M1 58 i = faA n W k i) ∧ ∀ z, (z < 47 ∨ 58 < z) → M1 z = N z := by
  have h8 := hw.2.1
  have t1 : TS n W (cpT 47 35 N) 47 := ht.mv h8 (cpT_e (by decide))
  have f1 : ∀ z, (z < 47 ∨ 58 < z) → cpT 47 35 N z = N z := fun z hz => cpT_F z (by omega)
  obtain ⟨M5, e2, t2, f2⟩ := t1.1.dn (set := f_X11_bit (nI k)) h8 T47
  obtain ⟨M6, e3, t3, g1, g2, f3⟩ := C_collapse hw.dn t2 T47
  refine ⟨M6, ?_, g2, g1, fun z hz => by rw [f3 z (by omega), f2 z (by omega) (by omega), f1 z hz]⟩
  unfold f_X11_fallOf
  rw [b2_a (T_copy T47 T35), b2_a e2, b2_a e3, Int32.add_comm, i_1]
  rfl
theorem M_comesD {W : Nat → Int32} (hw : WF n W) {N : mM} (e : N 216 = W) {k : Nat} (hk : k < n) : ∃ M1, f_X12_comesDown (nI k) N = some ((), M1) ∧ M1 216 = W ∧ M1 215 10 = nI (faN n W k) ∧ M1 215 11 = nI (faR n W k) ∧ (∀ i, i < faN n W k → M1 222 i = faA n W k i) ∧ (∀ z, z ≠ 215 → z ≠ 216 → z ≠ 219 → z ≠ 221 → z ≠ 222 → M1 z = N z) ∧ ∀ j, j ≠ 10 → j ≠ 11 → M1 215 j = N 215 j := by
  have h8 := hw.2.1
  unfold f_X12_comesDown
  rw [m_kp2 e, b2_s]
  generalize hN : rs N 219 (va_cpy W (N 219) 0 0 424) = N1
  have N216 : N1 216 = W := by rw [← hN, rs_ne (by decide), e]
  rw [m_comesOut (n := n) (by rw [N216]; exact hw.1) h8 hk, b2_s, N216]
  obtain ⟨M3, a1, a2, a3, a4, a5, a6, a7⟩ := M_allFall (hw.dn (set := f_X11_bit (nI k))) (M := rs N1 216 (wDown n W (f_X11_bit (nI k)))) (rs_at _ _ _)
  rw [b2_a a1]
  have e219 : M3 219 = rs N 219 (va_cpy W (N 219) 0 0 424) 219 := by rw [a6 219 (by decide) (by decide) (by decide) (by decide), rs_ne (by decide), hN]
  have eW : ∀ j, 424 ≤ j → M3 216 j = W j := fun j hj => by
    rw [a2]
    exact (fW_h h8 (by omega) (by omega) _).trans (wD_o (by omega))
  rw [m_back (W := W) (m_219 e219) eW, b2_s]
  refine ⟨_, rfl, rs_at _ _ _, by rw [rs_ne (by decide), a3]; rfl, by rw [rs_ne (by decide), a4]; rfl, fun i hi => by rw [rs_ne (by decide), a5 i hi]; rfl, fun z z1 z2 z3 z4 z5 => ?_, fun j j1 j2 => ?_⟩
  · rw [rs_ne z2, a6 z z1 z2 z4 z5, rs_ne z2, ← hN, rs_ne z3]
  · rw [rs_ne (by decide), a7 j j1 j2, rs_ne (by decide), ← hN, rs_ne (by decide)]
theorem M_canF (h : Rl n M) {Mo : mM} (e : Mo 216 = M 216) {p : Int32} : f_X12_cannotFall p Mo = bif isP n p then f_X12_cannotFall_18 (!upB (M 216) (ix p)) (mst Mo 215 0 0) else some (true, mst (mst Mo 215 0 0) 215 0 1) := by
  have h8 := h.h8
  unfold f_X12_cannotFall
  rw [wr_e, b1_a (m_nb h e), m_tIf, b2_s]
  cases hP : isP n p
  · rw [Bool.not_false, cond_true, cond_true, cond_false]
  · obtain ⟨k, hk, rfl⟩ := isP_of h8 hP
    rw [Bool.not_true, cond_false, cond_false, cond_true, m_isUp (by omega), b1_s, mst_no (by decide), e, i_ix (by omega)]
    cases upB (M 216) k
    · rw [cond_false, Bool.not_false]
    · rw [cond_true, Bool.not_true]
/-- one of the three that ask what falls -/
theorem OpT.fal (h : Rl n M) {p : Int32} {fc : mM → Option ((Int32 ⊕ Nat) × mM)} {fm : mM → Option (Int32 × mM)} {kc : Int32 → mM → Option ((Int32 ⊕ Nat) × mM)} {km : mM → Option (Int32 × mM)} {v : Nat → Int32}
    (hc : fc M = tb (f_X11_mustBePerson p M) (fun _ M1 => tb (f_X11_mustBeUp p M1) (fun _ M2 => b2 (f_X11_fallOf p M2) kc)))
    (hm : ∀ Mo, fm Mo = b2 (f_X12_cannotFall p Mo) (fun v1 M1 => bif v1 then (some ((0 : Int32), M1)) else (b2 (f_X12_comesDown p M1) (fun _ M3 => km M3))))
    (hkc : ∀ k N, k < n → p = nI k → N 47 19 = nI (faR n (M 216) k) → (∀ i, i < faN n (M 216) k → N 58 i = faA n (M 216) k i) → kc (nI (faN n (M 216) k + 1)) N = some (.inl (v k), N))
    (hkm : ∀ k N, k < n → p = nI k → N 215 10 = nI (faN n (M 216) k) → N 215 11 = nI (faR n (M 216) k) → (∀ i, i < faN n (M 216) k → N 222 i = faA n (M 216) k i) → km N = some (v k, N)) : OpT M fc fm tIS := by
  have h8 := h.h8
  cases hP : isP n p
  · refine OpT.q h (r := .inr 2) (M1 := M) ?_ CQ.rf (fun Mo e hr => ⟨0, mst (mst Mo 215 0 0) 215 0 1, ?_, rq_thr.1, rq_thr.2.1, rq_thr.2.2, by decide⟩)
    · rw [hc, C_mustP h, hP, cond_false, tb_r]
    · rw [hm, M_canF h e, hP, cond_false, b2_s, cond_true]
  · obtain ⟨k, hk, rfl⟩ := isP_of h8 hP
    cases hU : upB (M 216) k
    · refine OpT.q h (r := .inr 4) (M1 := M) ?_ CQ.rf (fun Mo e hr => ⟨0, mst (mst Mo 215 0 0) 215 0 2, ?_, rq_thr.1, rq_thr.2.1, rq_thr.2.2, by decide⟩)
      · rw [hc, C_mustP h, hP, cond_true, tb_l, C_mustUp h hk, hU, cond_false, tb_r]
      · rw [hm, M_canF h e, hP, cond_true, i_ix (by omega), hU, Bool.not_false]
        unfold f_X12_cannotFall_18
        rw [m_tIf, b2_s, cond_true, cond_true, b2_s, cond_true]
    · obtain ⟨M1, a1, a2, a3, a4⟩ := C_fallOf h.wf h.ts k
      refine OpT.q h (r := .inl (v k)) (M1 := M1) ?_ (CQ.hi fun z hz => a4 z (by omega)) (fun Mo e hr => ?_)
      · rw [hc, C_mustP h, hP, cond_true, tb_l, C_mustUp h hk, hU, cond_true, tb_l, b2_a a1]
        exact hkc k M1 hk rfl a2 a3
      · obtain ⟨M2, b1, b2, b3, b4, b5, b6, b7⟩ := M_comesD h.wf (N := mst Mo 215 0 0) (by rw [mst_no (by decide), e]) hk
        refine ⟨v k, M2, ?_, RQ.of (fun z z1 z2 z3 z4 _ => ?_) (fun j hj => ?_), ?_, rfl, ?_⟩
        · rw [hm, M_canF h e, hP, cond_true, i_ix (by omega), hU, Bool.not_true]
          unfold f_X12_cannotFall_18
          rw [m_tIf, b2_s, cond_false, cond_false, b2_s, cond_false, b2_a b1]
          exact hkm k M2 hk rfl b3 b4 b5
        · by_cases h6 : z = 216
          · rw [h6, b2, e]
          · rw [b6 z z1 h6 z2 z3 z4, mst_no z1]
        · rw [b7 j (by omega) (by omega), mst_nk (by omega)]
        · rw [b6 231 (by decide) (by decide) (by decide) (by decide) (by decide), mst_no (by decide)]
        · rw [b7 0 (by decide) (by decide), mst_oo]
theorem Op_falls (h : Rl n M) {p : Int32} : OpT M (f_X11_falls p) (f_X12_falls p) tIS := by
  refine OpT.fal h (p := p) (kc := fun v3 M3 => some (.inl v3, M3)) (km := fun M3 => some (((M3 215 10) + (1 : Int32)), M3)) (v := fun k => nI (faN n (M 216) k + 1)) rfl (fun _ => rfl) (fun k N _ _ _ _ => rfl) (fun k N _ _ e _ _ => ?_)
  rw [e, i_1]
theorem Op_rounds (h : Rl n M) {p : Int32} : OpT M (f_X11_rounds p) (f_X12_rounds p) tIS := by
  refine OpT.fal h (p := p) (kc := fun v3 M3 => some (.inl (M3 47 19), M3)) (km := fun M3 => some ((M3 215 11), M3)) (v := fun k => nI (faR n (M 216) k)) rfl (fun _ => rfl) (fun k N _ _ e _ => ?_) (fun k N _ _ _ e _ => ?_)
  · rw [e]
  · rw [e]
theorem inB_1f {f : Nat} (hf : f ≤ 8) (x : Int32) : inB 1 (nI f) x = (!decide (x ≤ 0) && !decide (nI (f + 1) ≤ x)) := by
  unfold inB
  have e1 : decide (x < 1) = decide (x ≤ 0) := by
    rw [decide_eq_decide, Int32.lt_iff_toInt_lt, Int32.le_iff_toInt_le, show (1 : Int32).toInt = 1 from rfl, show (0 : Int32).toInt = 0 from rfl]
    omega
  have e2 : decide (nI f < x) = decide (nI (f + 1) ≤ x) := by
    rw [decide_eq_decide, Int32.lt_iff_toInt_lt, Int32.le_iff_toInt_le, i_toInt (by omega), i_toInt (by omega)]
    omega
  rw [e1, e2]
theorem inB_1n {f : Nat} (hf : f ≤ 8) {x : Int32} (h : inB 1 (nI f) x = true) : ∃ j, j < f ∧ x = nI (j + 1) := by
  unfold inB at h
  rw [Bool.and_eq_true, ← dn, ← dn] at h
  have h1 := of_decide_eq_true h.1
  have h2 := of_decide_eq_true h.2
  rw [Int32.lt_iff_toInt_lt, show (1 : Int32).toInt = 1 from rfl] at h1
  rw [Int32.lt_iff_toInt_lt, i_toInt (by omega)] at h2
  refine ⟨x.toInt.toNat - 1, by omega, ?_⟩
  apply Int32.toInt_inj.mp
  rw [i_toInt (by omega)]
  omega
theorem i_mOne (j : Nat) : nI (j + 1) - (1 : Int32) = nI j := by rw [← i_1, Int32.add_sub_cancel]
def falV (n : Nat) (W : Nat → Int32) (x : Int32) (k : Nat) : Int32 := bif decide (x = 0) then nI k else bif inB 1 (nI (faN n W k)) x then faA n W k (ix (x - 1)) else -1
theorem Op_fallen (h : Rl n M) {p x : Int32} : OpT M (f_X11_fallen p x) (f_X12_fallen p x) tIS := by
  have h8 := h.h8
  refine OpT.fal h (p := p) (kc := fun v3 M3 => bif decide (¬ x = 0) then (bif decide (x ≤ 0) then (some (.inl (-1 : Int32), M3)) else (bif decide (v3 ≤ x) then (some (.inl (-1 : Int32), M3)) else (bif decide ((8 : Int32) < x) then (some (.inl (-1 : Int32), M3)) else (gd (mIn (x - (1 : Int32)) 8) (some (.inl (M3 58 (ix (x - (1 : Int32)))), M3)))))) else (some (.inl p, M3))) (km := fun M3 => bif decide (¬ x = 0) then (bif (f_X12_in x (1 : Int32) (M3 215 10)) then (gd (mIn (x - (1 : Int32)) 9) (some ((M3 222 (ix (x - (1 : Int32)))), M3))) else (some ((-1 : Int32), M3))) else (some (p, M3))) (v := falV n (M 216) x) rfl (fun _ => rfl) (fun k N hk hp _ e => ?_) (fun k N hk hp e _ e2 => ?_)
  · subst hp
    have hf := faN_le (W := M 216) h8 k
    unfold falV
    rw [dn]
    cases hx : decide (x = 0)
    · rw [Bool.not_false, cond_true, cond_false, inB_1f hf]
      cases h1 : decide (x ≤ 0)
      · cases h2 : decide (nI (faN n (M 216) k + 1) ≤ x)
        · obtain ⟨j, hj, rfl⟩ := inB_1n hf (by rw [inB_1f hf, h1, h2]; rfl)
          rw [cond_false, cond_false, show (8 : Int32) = nI 8 from rfl, i_lt (by decide) (by omega), decide_eq_false (by omega), cond_false, i_mOne, gd_t (i_in (by omega) (by decide)), i_ix (by omega), e j hj]
          rfl
        · rw [cond_false, cond_true]; rfl
      · rw [cond_true]; rfl
    · rw [Bool.not_true, cond_false, cond_true]
  · subst hp
    have hf := faN_le (W := M 216) h8 k
    unfold falV
    rw [dn]
    cases hx : decide (x = 0)
    · rw [Bool.not_false, cond_true, cond_false, in_B, e]
      cases hI : inB 1 (nI (faN n (M 216) k)) x
      · rw [cond_false, cond_false]
      · obtain ⟨j, hj, rfl⟩ := inB_1n hf hI
        rw [cond_true, cond_true, i_mOne, gd_t (i_in (by omega) (by decide)), i_ix (by omega), e2 j hj]
    · rw [Bool.not_true, cond_false, cond_true]
/-- who brings most down -/
def keyF (n : Nat) (W : Nat → Int32) (k : Nat) (s : Int32 × Nat) : Int32 × Nat := bif decide (k < n) && upB W k then (bif decide (faN n W k + 1 ≤ s.2) then s else (nI k, faN n W k + 1)) else s
def keyS (n : Nat) (W : Nat → Int32) (k : Nat) : Int32 × Nat := itr (keyF n W) ((-1 : Int32), 0) k
theorem keyS_le {W : Nat → Int32} (h8 : n ≤ 8) : ∀ k, (keyS n W k).2 ≤ 9 := by
  intro k
  induction k with
  | zero => exact Nat.zero_le _
  | succ k ih =>
    show (keyF n W k (keyS n W k)).2 ≤ 9
    unfold keyF
    have := faN_le (W := W) h8 k
    cases decide (k < n) && upB W k
    · exact ih
    · cases decide (faN n W k + 1 ≤ (keyS n W k).2)
      · show faN n W k + 1 ≤ 9
        omega
      · exact ih
theorem keyS_n {W : Nat → Int32} (h8 : n ≤ 8) : keyS n W 8 = keyS n W n := itr_n (fun k h1 _ z => by unfold keyF; rw [decide_eq_false (by omega)]; rfl) 8 h8 (Nat.le_refl 8)
theorem i_gm {f g : Nat} (hf : f ≤ 9) (hg : g ≤ 9) : decide (nI f ≤ nI g - 1) = decide (f + 1 ≤ g) ∧ mMax (nI g - 1) (nI f) = nI (max g (f + 1)) - 1 := by
  have e : (nI g - 1).toInt = (g : Int) - 1 := by
    cases g with
    | zero => rfl
    | succ g =>
      rw [i_mOne, i_toInt (by omega)]
      omega
  have h1 : decide (nI f ≤ nI g - 1) = decide (f + 1 ≤ g) := by
    rw [decide_eq_decide, Int32.le_iff_toInt_le, e, i_toInt (by omega)]
    omega
  refine ⟨h1, ?_⟩
  rw [mMax_b, h1]
  by_cases h : f + 1 ≤ g
  · rw [decide_eq_true h, cond_true, Nat.max_eq_left h]
  · rw [decide_eq_false h, cond_false, Nat.max_eq_right (by omega), i_mOne]
theorem Op_key (h : Rl n M) : OpA M f_X11_key f_X12_key := by
  have h8 := h.h8
  have hn := h.hn
  have hC : ∃ M1, f_X11_key M = some ((keyS n (M 216) 8).1, M1) ∧ ∀ z, (z < 47 ∨ 58 < z) → M1 z = M z := by
    unfold f_X11_key f_X11_key_l6
    refine wh_V (fun k (s : Int32 × Int32 × Int32 × mM) => s.1 = (keyS n (M 216) k).1 ∧ s.2.1 = nI (keyS n (M 216) k).2 ∧ s.2.2.1 = nI k ∧ ∀ z, (z < 47 ∨ 58 < z) → s.2.2.2 z = M z) _ _ 8 _ _ ⟨rfl, rfl, rfl, fun z _ => rfl⟩ (fun k hk s hs => ?_) (fun s hs => ?_) (by decide)
    · obtain ⟨a, b, i, N⟩ := s
      obtain ⟨h1, h2, h3, h4⟩ := hs
      dsimp only at h1 h2 h3 h4
      subst h1 h2 h3
      have t : TS n (M 216) N 35 := h.ts.in216 h8 fun z z1 z2 => h4 z (by omega)
      have hb := keyS_le (W := M 216) h8 k
      have es : keyS n (M 216) (k + 1) = keyF n (M 216) k (keyS n (M 216) k) := rfl
      rw [es]
      generalize keyS n (M 216) k = s at hb ⊢
      show ∃ s', f_X11_key_6 s.1 (nI s.2) (nI k) N = some (.inr s') ∧ _
      unfold f_X11_key_6 f_X11_key_20 keyF
      rw [bif_f (i_8 hk), t.1.2.1, has_hs (by omega), hs_ups hk, i_1]
      cases hu : decide (k < n) && upB (M 216) k
      · rw [cond_false, cond_false, show (0 : Int32) = nI 0 from rfl, i_le (by decide) (by omega), decide_eq_true (Nat.zero_le _), cond_true]
        exact ⟨_, rfl, rfl, rfl, rfl, h4⟩
      · obtain ⟨M1, a1, -, -, a4⟩ := C_fallOf h.wf t k
        have hf := faN_le (W := M 216) h8 k
        rw [cond_true, cond_true, b2_a a1, i_le (by omega) (by omega)]
        cases decide (faN n (M 216) k + 1 ≤ s.2)
        · rw [cond_false, cond_false]
          exact ⟨_, rfl, rfl, rfl, rfl, fun z hz => (a4 z hz).trans (h4 z hz)⟩
        · rw [cond_true, cond_true]
          exact ⟨_, rfl, rfl, rfl, rfl, fun z hz => (a4 z hz).trans (h4 z hz)⟩
    · obtain ⟨a, b, i, N⟩ := s
      obtain ⟨h1, h2, h3, h4⟩ := hs
      dsimp only at h1 h2 h3 h4
      subst h1 h2 h3
      show ∃ M', f_X11_key_6 _ _ (nI 8) N = _ ∧ _
      unfold f_X11_key_6
      rw [bif_t i_88]
      exact ⟨_, rfl, h4⟩
  obtain ⟨M1, c1, c2⟩ := hC
  refine OpA.q h c1 (CQ.hi fun z hz => c2 z (by omega)) fun h1 e1 => ?_
  have hM : ∃ M2, f_X12_key M1 = some ((keyS n (M 216) 8).1, M2) ∧ (M2 216 = M 216 ∧ (∀ z, z ≠ 215 → z ≠ 216 → z ≠ 219 → z ≠ 221 → z ≠ 222 → M2 z = M1 z) ∧ ∀ j, j ≠ 0 → j ≠ 10 → j ≠ 11 → M2 215 j = M1 215 j) := by
    unfold f_X12_key f_X12_key_l9
    rw [wr_e, keyS_n h8]
    refine wh_V (fun k (s : Int32 × Int32 × Int32 × mM) => s.1 = (keyS n (M 216) k).1 ∧ s.2.1 = nI (keyS n (M 216) k).2 - 1 ∧ s.2.2.1 = nI k ∧ (s.2.2.2 216 = M 216 ∧ (∀ z, z ≠ 215 → z ≠ 216 → z ≠ 219 → z ≠ 221 → z ≠ 222 → s.2.2.2 z = M1 z) ∧ ∀ j, j ≠ 0 → j ≠ 10 → j ≠ 11 → s.2.2.2 215 j = M1 215 j)) _ _ n _ _ ⟨rfl, rfl, rfl, (mst_no (M := M1) (o := 215) (k := 0) (v := 0) (show 216 ≠ 215 by decide)).trans e1, fun z z1 _ _ _ _ => mst_no (M := M1) (o := 215) (k := 0) (v := 0) z1, fun j j1 _ _ => mst_nk (M := M1) (o := 215) (k := 0) (v := 0) j1⟩ (fun k hk s hs => ?_) (fun s hs => ?_) (by omega)
    · obtain ⟨a, b, i, N⟩ := s
      obtain ⟨h1, h2, h3, h4, h5, h6⟩ := hs
      dsimp only at h1 h2 h3 h4 h5 h6
      subst h1 h2 h3
      have hb := keyS_le (W := M 216) h8 k
      have es : keyS n (M 216) (k + 1) = keyF n (M 216) k (keyS n (M 216) k) := rfl
      rw [es]
      generalize keyS n (M 216) k = s at hb ⊢
      show ∃ s', f_X12_key_9 s.1 (nI s.2 - 1) (nI k) N = some (.inr s') ∧ _
      unfold f_X12_key_9 keyF
      rw [m_ppl (n := n) (by rw [h4]; exact hn), b1_s, bif_f (i_len hk h8), m_isUp (by omega), b1_s, h4, i_1, decide_eq_true hk, Bool.true_and]
      cases hu : upB (M 216) k
      · rw [cond_false, cond_false]
        exact ⟨_, rfl, rfl, rfl, rfl, h4, h5, h6⟩
      · obtain ⟨M2, b1, b2, b3, b4, b5, b6, b7⟩ := M_comesD h.wf (N := N) h4 hk
        have hf := faN_le (W := M 216) h8 k
        have hg := i_gm (f := faN n (M 216) k) (g := s.2) (by omega) hb
        unfold f_X12_key_28
        rw [cond_true, cond_true, b2_a b1, b3, hg.1, hg.2, i_1]
        have F : M2 216 = M 216 ∧ (∀ z, z ≠ 215 → z ≠ 216 → z ≠ 219 → z ≠ 221 → z ≠ 222 → M2 z = M1 z) ∧ ∀ j, j ≠ 0 → j ≠ 10 → j ≠ 11 → M2 215 j = M1 215 j := ⟨b2, fun z z1 z2 z3 z4 z5 => (b6 z z1 z2 z3 z4 z5).trans (h5 z z1 z2 z3 z4 z5), fun j j1 j2 j3 => (b7 j j2 j3).trans (h6 j j1 j2 j3)⟩
        by_cases hle : faN n (M 216) k + 1 ≤ s.2
        · rw [decide_eq_true hle, cond_true, cond_true, Nat.max_eq_left hle]
          exact ⟨_, rfl, rfl, rfl, rfl, F⟩
        · rw [decide_eq_false hle, cond_false, cond_false, Nat.max_eq_right (by omega)]
          exact ⟨_, rfl, rfl, rfl, rfl, F⟩
    · obtain ⟨a, b, i, N⟩ := s
      obtain ⟨h1, h2, h3, h4, h5, h6⟩ := hs
      dsimp only at h1 h2 h3 h4 h5 h6
      subst h1 h2 h3
      show ∃ M', f_X12_key_9 _ _ (nI n) N = _ ∧ _
      unfold f_X12_key_9
      rw [m_ppl (n := n) (by rw [h4]; exact hn), b1_s, bif_t (i_lee n)]
      exact ⟨_, rfl, h4, h5, h6⟩
  obtain ⟨M2, d1, d2, d3, d4⟩ := hM
  refine ⟨M2, d1, RQ.of (fun z z1 z2 z3 z4 _ => ?_) fun k hk => d4 k (by omega) (by omega) (by omega)⟩
  by_cases h6 : z = 216
  · rw [h6, d2, e1]
  · exact d3 z z1 h6 z2 z3 z4
end
