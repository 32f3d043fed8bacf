/-! feels, sure, free, both -/
theorem hs_255 : ∀ j, j < 8 → hs 255 j = true := by decide +kernel
theorem and_255 {a : Int32} (h : S8 a) : a &&& (255 : Int32) = a := S8.ext (S8.andl h) h fun j hj => by rw [hs_and, hs_255 j hj, Bool.and_true]
theorem hs_m1 {j : Nat} (hj : j < 32) : hs (-1) j = true := by
  show (BitVec.allOnes 32).getLsbD j = true
  rw [BitVec.getLsbD_allOnes, decide_eq_true hj]
theorem and_m1 (a : Int32) : a &&& (-1 : Int32) = a := hs_ext fun j hj => by rw [hs_and, hs_m1 hj, Bool.and_true]
theorem i_256 {k : Nat} (hk : k < 256) : decide ((256 : Int32) ≤ nI k) = false := by
  rw [show (256 : Int32) = nI 256 from rfl, i_le (by decide) (by omega)]
  exact decide_eq_false (by omega)
theorem i_2566 : decide ((256 : Int32) ≤ nI 256) = true := rfl
def andL (T : List Nat) : Int32 := T.foldl (fun a t => a &&& nI t) 255
def orL (T : List Nat) : Int32 := T.foldl (fun a t => a ||| nI t) 0
theorem andL_a (T : List Nat) (t : Nat) : andL (T ++ [t]) = andL T &&& nI t := by
  unfold andL
  rw [List.foldl_append]
  rfl
theorem orL_a (T : List Nat) (t : Nat) : orL (T ++ [t]) = orL T ||| nI t := by
  unfold orL
  rw [List.foldl_append]
  rfl
theorem take_s (T : List Nat) {i t : Nat} (h : T[i]? = some t) : T.take (i + 1) = T.take i ++ [t] := by
  rw [List.take_succ, h]
  rfl
theorem take_n (T : List Nat) {i : Nat} (h : T.length ≤ i) : T.take (i + 1) = T.take i := by
  rw [List.take_of_length_le (by omega), List.take_of_length_le h]
theorem S8_and : ∀ (T : List Nat) (a : Int32), S8 a → S8 (T.foldl (fun a t => a &&& nI t) a) := by
  intro T
  induction T with
  | nil => intro a h; exact h
  | cons t T ih => intro a h; exact ih _ (S8.andl h)
theorem S8_255 : S8 255 := by
  have : ∀ j, j < 32 → 8 ≤ j → hs 255 j = false := by decide +kernel
  exact fun j h hj => this j hj h
theorem S8.andL {T : List Nat} : S8 (andL T) := S8_and T 255 S8_255
section
variable {n : Nat} {W : Nat → Int32}
theorem kpt_at {L : List Nat} {N : mM} (h : kpt n W L N) {i : Nat} (hi : i < L.length) : ∃ t, L[i]? = some t ∧ N 6 i = nI t := ⟨L[i], List.getElem?_eq_getElem hi, (h.2 i _ (List.getElem?_eq_getElem hi)).1⟩
theorem C_inAll {L : List Nat} {N : mM} (h : kpt n W L N) (hl : L.length ≤ 256) : f_X6_asleepInAll N = some (andL L) := by
  unfold f_X6_asleepInAll f_X6_asleepInAll_l4
  refine wh_ne (fun k => (andL (L.take k), nI k)) 256 _ (by decide) rfl (fun k hk => ?_) ?_
  · show f_X6_asleepInAll_4 (andL (L.take k)) (nI k) N = _
    unfold f_X6_asleepInAll_4
    rw [i_256 hk, cond_false, h.1, i_le (by omega) (by omega), i_1]
    by_cases hkl : k < L.length
    · obtain ⟨t, e1, e2⟩ := kpt_at h hkl
      rw [decide_eq_false (by omega), cond_false, gd_t (i_in hk (by decide)), i_ix (by omega), e2, take_s L e1, andL_a]
    · rw [decide_eq_true (by omega), cond_true, take_n L (by omega), and_255 S8.andL]
  · show f_X6_asleepInAll_4 (andL (L.take 256)) (nI 256) N = _
    unfold f_X6_asleepInAll_4
    rw [i_2566, cond_true, List.take_of_length_le hl]
theorem C_inSome {L : List Nat} {N : mM} (h : kpt n W L N) (hl : L.length ≤ 256) : f_X6_asleepInSome N = some (orL L) := by
  unfold f_X6_asleepInSome f_X6_asleepInSome_l4
  refine wh_ne (fun k => (orL (L.take k), nI k)) 256 _ (by decide) rfl (fun k hk => ?_) ?_
  · show f_X6_asleepInSome_4 (orL (L.take k)) (nI k) N = _
    unfold f_X6_asleepInSome_4
    rw [i_256 hk, cond_false, h.1, i_le (by omega) (by omega), i_1]
    by_cases hkl : k < L.length
    · obtain ⟨t, e1, e2⟩ := kpt_at h hkl
      rw [decide_eq_false (by omega), cond_false, gd_t (i_in hk (by decide)), i_ix (by omega), e2, take_s L e1, orL_a]
    · rw [decide_eq_true (by omega), cond_true, take_n L (by omega), b_or0]
  · show f_X6_asleepInSome_4 (orL (L.take 256)) (nI 256) N = _
    unfold f_X6_asleepInSome_4
    rw [i_2566, cond_true, List.take_of_length_le hl]
theorem flt_1 {F : Nat → Bool} {k : Nat} (h : F k = true) : flt F (k + 1) = flt F k ++ [k] := by rw [flt_s, h, cond_true]
theorem flt_0 {F : Nat → Bool} {k : Nat} (h : F k = false) : flt F (k + 1) = flt F k := by rw [flt_s, h, cond_false, List.append_nil]
theorem flt_l1 {F : Nat → Bool} {k : Nat} (h : F k = true) : (flt F (k + 1)).length = (flt F k).length + 1 := by rw [flt_1 h, List.length_append]; rfl
/-- the reference, over its table -/
theorem m_feelTo (hw : WF n W) {N : mM} (e : N 216 = W) (ht : tab n W 256 N) {p q : Nat} (hp : p < n) (hq : q < n) : f_X12_feelTo (nI p) (-1) N = some (nI (flt (feB n W p) 256).length) ∧ f_X12_feelTo (nI p) (nI q) N = some (nI (flt (fun t => feB n W p t && feB n W q t) 256).length) := by
  have h8 := hw.2.1
  have hn' : N 216 0 = nI n := by rw [e]; exact hw.1
  constructor
  · unfold f_X12_feelTo f_X12_feelTo_l7
    rw [m_slUp hn' h8, b1_s, e]
    refine wh_ne (fun k => (nI (flt (feB n W p) k).length, nI k)) 256 _ (by decide) rfl (fun k hk => ?_) ?_
    · show f_X12_feelTo_7 (nI p) (-1) (slS n W &&& upS n W) (nI (flt (feB n W p) k).length) (nI k) N = _
      unfold f_X12_feelTo_7
      rw [i_256 hk, cond_false, m_feels hw ht hp hk, b1_s, show decide ((-1 : Int32) = -1) = true from rfl, i_1 k]
      cases c : feB n W p k
      · rw [cond_false, flt_0 c, Int32.add_zero]
      · rw [cond_true, cond_true, flt_l1 c, i_1]
    · show f_X12_feelTo_7 (nI p) (-1) (slS n W &&& upS n W) (nI (flt (feB n W p) 256).length) (nI 256) N = _
      unfold f_X12_feelTo_7
      rw [i_2566, cond_true]
  · have hne : decide (nI q = (-1 : Int32)) = false := decide_eq_false fun z => nI_pos (show q < 2 ^ 31 by omega) (by rw [z]; decide)
    generalize hF : (fun t => feB n W p t && feB n W q t) = F
    unfold f_X12_feelTo f_X12_feelTo_l7
    rw [m_slUp hn' h8, b1_s, e]
    refine wh_ne (fun k => (nI (flt F k).length, nI k)) 256 _ (by decide) rfl (fun k hk => ?_) ?_
    · show f_X12_feelTo_7 (nI p) (nI q) (slS n W &&& upS n W) (nI (flt F k).length) (nI k) N = _
      unfold f_X12_feelTo_7
      have eF : F k = (feB n W p k && feB n W q k) := by rw [← hF]
      rw [i_256 hk, cond_false, m_feels hw ht hp hk, b1_s, hne, m_feels hw ht hq hk, b1_s, i_1 k]
      cases c : feB n W p k
      · rw [c, Bool.false_and] at eF
        rw [cond_false, flt_0 eF, Int32.add_zero]
      · rw [c, Bool.true_and] at eF
        rw [cond_true, cond_false, i_1]
        cases c2 : feB n W q k
        · rw [c2] at eF
          rw [cond_false, flt_0 eF, Int32.add_zero]
        · rw [c2] at eF
          rw [cond_true, flt_l1 eF]
    · show f_X12_feelTo_7 (nI p) (nI q) (slS n W &&& upS n W) (nI (flt F 256).length) (nI 256) N = _
      unfold f_X12_feelTo_7
      rw [i_2566, cond_true]
theorem m_sure (hw : WF n W) {N : mM} (e : N 216 = W) (ht : tab n W 256 N) {p : Nat} (hp : p < n) : f_X12_sure_l12 (nI p) 255 0 N = some (andL (flt (feB n W p) 256), N) := by
  have h8 := hw.2.1
  have hn' : N 216 0 = nI n := by rw [e]; exact hw.1
  unfold f_X12_sure_l12
  obtain ⟨A, hA⟩ : ∃ A : Nat → Int32, ∀ k, A k = andL (flt (feB n W p) k) := ⟨_, fun _ => rfl⟩
  rw [← hA 256]
  refine wh_ne (fun k => (A k, nI k)) 256 _ (by decide) (by rw [hA 0]; rfl) (fun k hk => ?_) ?_
  · show f_X12_sure_12 (nI p) (A k) (nI k) N = some (.inr (A (k + 1), nI (k + 1)))
    unfold f_X12_sure_12
    rw [i_256 hk, cond_false, m_slUp hn' h8, b1_s, e, m_feels hw ht hp hk, b1_s, i_1, hA, hA]
    cases c : feB n W p k
    · rw [cond_false, flt_0 c, and_m1]
    · rw [cond_true, flt_1 c, andL_a]
  · show f_X12_sure_12 (nI p) (A 256) (nI 256) N = _
    unfold f_X12_sure_12
    rw [i_2566, cond_true]
theorem m_free (hw : WF n W) {N : mM} (e : N 216 = W) (ht : tab n W 256 N) {p : Nat} (hp : p < n) : f_X12_free_l12 (nI p) 0 0 N = some ((upS n W &&& (f_X11_bit (nI p) ^^^ (-1 : Int32))) &&& (orL (flt (feB n W p) 256) ^^^ (-1 : Int32)), N) := by
  have h8 := hw.2.1
  have hn' : N 216 0 = nI n := by rw [e]; exact hw.1
  unfold f_X12_free_l12
  obtain ⟨A, hA⟩ : ∃ A : Nat → Int32, ∀ k, A k = orL (flt (feB n W p) k) := ⟨_, fun _ => rfl⟩
  rw [← hA 256]
  refine wh_ne (fun k => (A k, nI k)) 256 _ (by decide) (by rw [hA 0]; rfl) (fun k hk => ?_) ?_
  · show f_X12_free_12 (nI p) (A k) (nI k) N = some (.inr (A (k + 1), nI (k + 1)))
    unfold f_X12_free_12
    rw [i_256 hk, cond_false, m_slUp hn' h8, b1_s, e, m_feels hw ht hp hk, b1_s, i_1, hA, hA]
    cases c : feB n W p k
    · rw [cond_false, flt_0 c, b_or0]
    · rw [cond_true, flt_1 c, orL_a]
  · show f_X12_free_12 (nI p) (A 256) (nI 256) N = _
    unfold f_X12_free_12
    rw [i_2566, cond_true, m_ups hn' h8, b1_s, e, bitE]
    generalize A 256 = z
    refine congrArg (fun y => some (Sum.inl (y, N))) (hs_ext fun j hj => ?_)
    simp only [hs_and]
    cases hs (upS n W) j <;> cases hs (z ^^^ (-1 : Int32)) j <;> cases hs (f_X11_bit (nI p) ^^^ (-1 : Int32)) j <;> rfl
end
section
variable {n : Nat} {M : mM}
theorem M_canFe (h : Rl n M) {Mo : mM} (e : Mo 216 = M 216) {p : Int32} : f_X12_cannotFeel p Mo = bif isP n p then f_X12_cannotFeel_18 (!hoB (M 216) (ix p)) (mst Mo 215 0 0) else some (true, mst (mst Mo 215 0 0) 215 0 1) := by
  have h8 := h.h8
  unfold f_X12_cannotFeel
  rw [wr_e, b1_a (m_nb h e), m_tIf, b2_s]
  cases hP : isP n p
  · rw [Bool.not_false, cond_true, cond_true, cond_false]
  · obtain ⟨k, hk, rfl⟩ := isP_of h8 hP
    rw [Bool.not_true, cond_false, cond_false, cond_true, m_holds (by omega), b1_s, mst_no (by decide), e, i_ix (by omega)]
    cases hoB (M 216) k
    · rw [cond_false, Bool.not_false]
    · rw [cond_true, Bool.not_true]
theorem sC5 {M M' : mM} (h : ∀ z, z ≠ 5 → z ≠ 6 → z ≠ 7 → z ≠ 8 → M' z = M z) : CQ M M' := CQ.of fun z hz => h z (fun e => by (subst e; cases hz)) (fun e => by (subst e; cases hz)) (fun e => by (subst e; cases hz)) (fun e => by (subst e; cases hz))
/-- what the table's making leaves -/
theorem rq_tab {Mo M2 : mM} (e : Mo 216 = M 216) (b2 : M2 216 = M 216) (b4 : ∀ z, z ≠ 216 → z ≠ 219 → z ≠ 221 → z ≠ 228 → z ≠ 229 → M2 z = mst Mo 215 0 0 z) : RQ Mo M2 ∧ M2 231 = Mo 231 ∧ M2 215 0 = 0 := by
  refine ⟨RQ.of (fun z z1 z2 z3 z4 z5 => ?_) (fun k hk => ?_), ?_, ?_⟩
  · by_cases h6 : z = 216
    · rw [h6, b2, e]
    · rw [b4 z h6 z2 z3 (by omega) (by omega), mst_no z1]
  · rw [b4 215 (by decide) (by decide) (by decide) (by decide) (by decide), mst_nk (by omega)]
  · rw [b4 231 (by decide) (by decide) (by decide) (by decide) (by decide), mst_no (by decide)]
  · rw [b4 215 (by decide) (by decide) (by decide) (by decide) (by decide), mst_oo]
theorem OpT.fe (h : Rl n M) {p : Int32} {fc : mM → Option ((Int32 ⊕ Nat) × mM)} {fm : mM → Option (Int32 × mM)} {kc : mM → Option ((Int32 ⊕ Nat) × mM)} {km : mM → Option (Int32 × mM)} {v : Nat → Int32}
    (hc : fc M = tb (f_X11_mustBePerson p M) (fun _ M1 => tb (f_X11_mustHold p M1) (fun _ M2 => b2 (f_X6_gather 35 p p M2) (fun _ M3 => kc M3))))
    (hm : ∀ Mo, fm Mo = b2 (f_X12_cannotFeel p Mo) (fun v1 M1 => bif v1 then (some ((0 : Int32), M1)) else (b2 (f_X12_laysSleepers M1) (fun _ M3 => km M3))))
    (hkc : ∀ k N, k < n → p = nI k → CQ M N → N 35 = M 35 → kpt n (M 216) (flt (feB n (M 216) k) 256) N → kc N = some (.inl (v k), N))
    (hkm : ∀ k N, k < n → p = nI k → N 216 = M 216 → tab n (M 216) 256 N → km N = some (v k, N)) : OpT M fc fm tIS := by
  have h8 := h.h8
  cases hP : isP n p
  · refine OpT.q h (r := .inr 2) (M1 := M) ?_ CQ.rf (fun Mo e hr => ⟨0, mst (mst Mo 215 0 0) 215 0 1, ?_, rq_thr.1, rq_thr.2.1, rq_thr.2.2, by decide⟩)
    · rw [hc, C_mustP h, hP, cond_false, tb_r]
    · rw [hm, M_canFe h e, hP, cond_false, b2_s, cond_true]
  · obtain ⟨k, hk, rfl⟩ := isP_of h8 hP
    cases hU : hoB (M 216) k
    · refine OpT.q h (r := .inr 4) (M1 := M) ?_ CQ.rf (fun Mo e hr => ⟨0, mst (mst Mo 215 0 0) 215 0 2, ?_, rq_thr.1, rq_thr.2.1, rq_thr.2.2, by decide⟩)
      · rw [hc, C_mustP h, hP, cond_true, tb_l, C_mustHold h hk, hU, cond_false, tb_r]
      · rw [hm, M_canFe h e, hP, cond_true, i_ix (by omega), hU, Bool.not_false]
        unfold f_X12_cannotFeel_18
        rw [m_tIf, b2_s, cond_true, cond_true, b2_s, cond_true]
    · obtain ⟨M1, a1, a2, a3⟩ := C_gather h (p := k) (q := k) (by omega) (by omega)
      have a2' : kpt n (M 216) (flt (feB n (M 216) k) 256) M1 := by
        have : flt (fun t => feB n (M 216) k t && feB n (M 216) k t) 256 = flt (feB n (M 216) k) 256 := flt_cg fun j _ => Bool.and_self _
        rw [← this]
        exact a2
      refine OpT.q h (r := .inl (v k)) (M1 := M1) ?_ (sC5 a3) (fun Mo e hr => ?_)
      · rw [hc, C_mustP h, hP, cond_true, tb_l, C_mustHold h hk, hU, cond_true, tb_l, b2_a a1]
        exact hkc k M1 hk rfl (sC5 a3) (a3 35 (by decide) (by decide) (by decide) (by decide)) a2'
      · obtain ⟨M2, b1, b2, b3, b4⟩ := M_sleepers_lay h.wf (N := mst Mo 215 0 0) (by rw [mst_no (by decide), e])
        obtain ⟨q1, q2, q3⟩ := rq_tab e b2 b4
        refine ⟨v k, M2, ?_, q1, q2, rfl, q3⟩
        rw [hm, M_canFe h e, hP, cond_true, i_ix (by omega), hU, Bool.not_true]
        unfold f_X12_cannotFeel_18
        rw [m_tIf, b2_s, cond_false, cond_false, b2_s, cond_false, b2_a b1]
        exact hkm k M2 hk rfl b2 b3
theorem Op_feels (h : Rl n M) {p : Int32} : OpT M (f_X11_feels p) (f_X12_feels p) tIS := by
  refine OpT.fe h (p := p) (kc := fun M3 => some (.inl (M3 5 4), M3)) (km := fun M3 => b1 (f_X12_feelTo p (-1 : Int32) M3) (fun v4 => some (v4, M3))) (v := fun k => nI (flt (feB n (M 216) k) 256).length) rfl (fun _ => rfl) (fun k N hk hp _ _ hkp => ?_) (fun k N hk hp e ht => ?_)
  · rw [hkp.1]
  · subst hp
    rw [(m_feelTo h.wf e ht hk hk).1, b1_s]
theorem Op_sure (h : Rl n M) {p : Int32} : OpT M (f_X11_sure p) (f_X12_sure p) tIS := by
  refine OpT.fe h (p := p) (kc := fun M3 => b1 (f_X6_asleepInAll M3) (fun v4 => some (.inl v4, M3))) (km := fun M7 => f_X12_sure_l12 p (255 : Int32) (0 : Int32) M7) (v := fun k => andL (flt (feB n (M 216) k) 256)) rfl (fun _ => rfl) (fun k N hk hp _ _ hkp => ?_) (fun k N hk hp e ht => ?_)
  · rw [C_inAll hkp (flt_len _ _), b1_s]
  · subst hp
    rw [m_sure h.wf e ht hk]
theorem Op_free (h : Rl n M) {p : Int32} : OpT M (f_X11_free p) (f_X12_free p) tIS := by
  refine OpT.fe h (p := p) (kc := fun M3 => b1 (f_X6_asleepInSome M3) (fun v5 => some (.inl (((M3 35 1) &&& ((f_X11_bit p) ^^^ (-1 : Int32))) &&& (v5 ^^^ (-1 : Int32))), M3))) (km := fun M8 => f_X12_free_l12 p (0 : Int32) (0 : Int32) M8) (v := fun k => (upS n (M 216) &&& (f_X11_bit (nI k) ^^^ (-1 : Int32))) &&& (orL (flt (feB n (M 216) k) 256) ^^^ (-1 : Int32))) rfl (fun _ => rfl) (fun k N hk hp _ e35 hkp => ?_) (fun k N hk hp e ht => ?_)
  · subst hp
    rw [C_inSome hkp (flt_len _ _), b1_s, e35, h.up]
  · subst hp
    rw [m_free h.wf e ht hk]
theorem Op_both (h : Rl n M) {p q : Int32} : OpT M (f_X11_both p q) (f_X12_both p q) tRe := by
  have h8 := h.h8
  have hM : ∀ Mo : mM, Mo 216 = M 216 → f_X12_both p q Mo = f_X12_both_15 p q (!(isP n p && isP n q)) (mst Mo 215 0 0) := fun Mo e => by
    unfold f_X12_both f_X12_both_12
    rw [wr_e, b1_a (m_nb h e)]
    cases isP n p
    · rw [Bool.not_false, cond_true, Bool.false_and, Bool.not_false]
    · rw [Bool.not_true, cond_false, b1_a (m_nb h e)]
      cases isP n q
      · rw [Bool.not_false, cond_true, Bool.and_false, Bool.not_false]
      · rw [Bool.not_true, cond_false, Bool.and_true, Bool.not_true]
  have thr1 : (isP n p && isP n q) = false → f_X11_both p q M = some (.inr 2, M) → OpT M (f_X11_both p q) (f_X12_both p q) tRe := fun hc e1 => by
    refine OpT.q h (r := .inr 2) (M1 := M) e1 CQ.rf (fun Mo e hr => ⟨0, mst (mst Mo 215 0 0) 215 0 1, ?_, rq_thr.1, rq_thr.2.1, rq_thr.2.2, by decide⟩)
    rw [hM Mo e, hc]
    unfold f_X12_both_15
    rw [m_tIf, b2_s, Bool.not_false, cond_true, cond_true]
  cases hP : isP n p
  · refine thr1 (by rw [hP]; rfl) ?_
    unfold f_X11_both
    rw [C_mustP h, hP, cond_false, tb_r]
  · cases hQ : isP n q
    · refine thr1 (by rw [hP, hQ]; rfl) ?_
      unfold f_X11_both
      rw [C_mustP h, hP, cond_true, tb_l, C_mustP h, hQ, cond_false, tb_r]
    · obtain ⟨k, hk, rfl⟩ := isP_of h8 hP
      obtain ⟨j, hj, rfl⟩ := isP_of h8 hQ
      have hC : f_X11_both (nI k) (nI j) M = f_X11_both_12 (nI k) (nI j) (!decide (nI k = nI j)) M := by
        unfold f_X11_both
        rw [C_mustP h, hP, cond_true, tb_l, C_mustP h, hQ, cond_true, tb_l]
        cases decide (nI k = nI j)
        · rw [cond_false, Bool.not_false]
        · rw [cond_true, Bool.not_true]
      have hM2 : ∀ Mo : mM, Mo 216 = M 216 → f_X12_both (nI k) (nI j) Mo = f_X12_both_25 (nI k) (nI j) (decide (nI k = nI j)) (mst Mo 215 0 0) := fun Mo e => by
        rw [hM Mo e, hP, hQ]
        unfold f_X12_both_15
        rw [m_tIf, b2_s, Bool.and_true, Bool.not_true, cond_false, cond_false, dn]
        cases decide (nI k = nI j)
        · rw [Bool.not_false, cond_true]
        · rw [Bool.not_true, cond_false]
      cases hE : decide (nI k = nI j)
      · have hM3 : ∀ Mo : mM, Mo 216 = M 216 → f_X12_both (nI k) (nI j) Mo = f_X12_both_40 (nI k) (nI j) (!(hoB (M 216) k && hoB (M 216) j)) (mst Mo 215 0 0) := fun Mo e => by
          have e' : mst Mo 215 0 0 216 = M 216 := by rw [mst_no (by decide), e]
          rw [hM2 Mo e, hE]
          unfold f_X12_both_25 f_X12_both_37
          rw [m_tIf, b2_s, cond_false, cond_false, m_holds (by omega), b1_s, e']
          cases hoB (M 216) k
          · rw [cond_false, Bool.false_and, Bool.not_false]
          · rw [cond_true, Bool.true_and, m_holds (by omega), b1_s, e']
            cases hoB (M 216) j
            · rw [cond_false, Bool.not_false]
            · rw [cond_true, Bool.not_true]
        have hC3 : f_X11_both (nI k) (nI j) M = tb (some (bif hoB (M 216) k then Sum.inl () else Sum.inr 4, M)) (fun (_ : Unit) M2 => tb (f_X11_mustHold (nI j) M2) (fun _ M3 => b2 (f_X6_gather 35 (nI k) (nI j) M3) (fun _ M4 => some (.inl (M4 5 4), M4)))) := by
          rw [hC, hE, Bool.not_false]
          unfold f_X11_both_12 f_X11_mustBeOne
          rw [cond_true, tb_l, C_mustHold h hk]
        have thr3 : (hoB (M 216) k && hoB (M 216) j) = false → f_X11_both (nI k) (nI j) M = some (.inr 4, M) → OpT M (f_X11_both (nI k) (nI j)) (f_X12_both (nI k) (nI j)) tRe := fun hc e1 => by
          refine OpT.q h (r := .inr 4) (M1 := M) e1 CQ.rf (fun Mo e hr => ⟨0, mst (mst Mo 215 0 0) 215 0 3, ?_, rq_thr.1, rq_thr.2.1, rq_thr.2.2, by decide⟩)
          rw [hM3 Mo e, hc]
          unfold f_X12_both_40
          rw [m_tIf, b2_s, Bool.not_false, cond_true, cond_true]
        cases c1 : hoB (M 216) k
        · exact thr3 (by rw [c1]; rfl) (by rw [hC3, c1, cond_false, tb_r])
        · cases c2 : hoB (M 216) j
          · exact thr3 (by rw [c1, c2]; rfl) (by rw [hC3, c1, cond_true, tb_l, C_mustHold h hj, c2, cond_false, tb_r])
          · obtain ⟨M1, a1, a2, a3⟩ := C_gather h (p := k) (q := j) (by omega) (by omega)
            refine OpT.q h (r := .inl (nI (flt (fun t => feB n (M 216) k t && feB n (M 216) j t) 256).length)) (M1 := M1) ?_ (sC5 a3) (fun Mo e hr => ?_)
            · rw [hC3, c1, cond_true, tb_l, C_mustHold h hj, c2, cond_true, tb_l, b2_a a1, a2.1]
            · obtain ⟨M2, b1, b2, b3, b4⟩ := M_sleepers_lay h.wf (N := mst Mo 215 0 0) (by rw [mst_no (by decide), e])
              obtain ⟨q1, q2, q3⟩ := rq_tab e b2 b4
              refine ⟨_, M2, ?_, q1, q2, rfl, q3⟩
              rw [hM3 Mo e, c1, c2]
              unfold f_X12_both_40
              rw [m_tIf, b2_s, Bool.and_true, Bool.not_true, cond_false, cond_false, b2_a b1, (m_feelTo h.wf b2 b3 hk hj).2, b1_s]
      · refine OpT.q h (r := .inr 0) (M1 := M) ?_ CQ.rf (fun Mo e hr => ⟨0, mst (mst Mo 215 0 0) 215 0 2, ?_, rq_thr.1, rq_thr.2.1, rq_thr.2.2, by decide⟩)
        · rw [hC, hE, Bool.not_true]
          unfold f_X11_both_12 f_X11_mustBeOne
          rw [cond_false, tb_r]
        · rw [hM2 Mo e, hE]
          unfold f_X12_both_25
          rw [m_tIf, b2_s, cond_true, cond_true]
end
