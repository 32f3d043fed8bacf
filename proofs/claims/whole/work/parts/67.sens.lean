/-! what one who holds can feel: worlds by who sleeps -/
theorem nIs {t : Nat} (ht : t < 256) : S8 (nI t) := fun j h hj => by
  show (BitVec.ofNat 32 t).getLsbD j = false
  rw [BitVec.getLsbD_ofNat]
  have : t.testBit j = false := Nat.testBit_lt_two_pow (Nat.lt_of_lt_of_le ht (Nat.pow_le_pow_right (by decide) h : 2 ^ 8 ≤ 2 ^ j))
  rw [this, Bool.and_false]
/-- a set of people is some number below 256 -/
theorem within_iff {a b : Int32} : f_X11_within a b = decide (a &&& (b ^^^ (-1 : Int32)) = 0) := by
  unfold f_X11_within
  rw [dn]
  cases decide (a &&& (b ^^^ (-1 : Int32)) = 0) <;> rfl
def wi (a b : Int32) : Bool := decide (a &&& (b ^^^ (-1 : Int32)) = 0)
theorem wi_iff {a b : Int32} (ha : S8 a) : wi a b = true ↔ ∀ j, j < 8 → hs a j = true → hs b j = true := by
  unfold wi
  constructor
  · intro h j hj hs'
    have h0 := of_decide_eq_true h
    have : hs (a &&& (b ^^^ (-1 : Int32))) j = hs 0 j := by rw [h0]
    rw [hs_and, hs_nn (by omega), hs_0, hs', Bool.true_and] at this
    cases e : hs b j
    · rw [e] at this; cases this
    · rfl
  · intro h
    refine decide_eq_true (S8.ext (S8.andl ha) S8.zero fun j hj => ?_)
    rw [hs_and, hs_nn (by omega), hs_0]
    cases e : hs a j
    · rfl
    · rw [h j hj e]; rfl
theorem bool_iff {a b : Bool} (h : a = true ↔ b = true) : a = b := by
  cases a <;> cases b <;> simp_all
section
variable {n : Nat} {W : Nat → Int32}
def slF (n : Nat) (W : Nat → Int32) (t : Int32) (p c : Nat) : Int32 := if c = 3 then (bif upB W p then mB (hs t p) else pv W p 3) else pv W p c
def slW (n : Nat) (W : Nat → Int32) (t : Int32) : Nat → Int32 := pXn n W (slF n W t)
theorem sW_3 {t : Int32} {p : Nat} (hp : p < n) (h8 : n ≤ 8) : pv (slW n W t) p 3 = bif upB W p then mB (hs t p) else pv W p 3 := by
  unfold slW
  rw [pXn_in hp (by omega) (by decide)]
  rfl
theorem sW_c {t : Int32} {p c : Nat} (hp : p < 8) (hc : c < 7) (h3 : c ≠ 3) : pv (slW n W t) p c = pv W p c := by
  unfold slW
  by_cases h : p < n
  · rw [pXn_in h hp hc]
    unfold slF
    rw [if_neg h3]
  · rw [pXn_out (by omega) hp hc]
theorem sW_o {t : Int32} {k : Nat} (h : k < 8 ∨ 64 ≤ k) : slW n W t k = W k := pXn_o h
theorem sW_out {t : Int32} {p c : Nat} (hp : n ≤ p) (h8 : p < 8) (hc : c < 7) : pv (slW n W t) p c = pv W p c := pXn_out hp h8 hc
theorem sW_up {t : Int32} {p : Nat} (hp : p < 8) : upB (slW n W t) p = upB W p := by
  unfold upB
  rw [sW_c hp (by decide) (by decide)]
theorem sW_ups {t : Int32} : upS n (slW n W t) = upS n W := set_congr fun p hp => by rw [sW_up hp]
theorem mB_1 (b : Bool) : decide (mB b = 1) = b := by cases b <;> rfl
theorem sW_hos {t : Int32} (h8 : n ≤ 8) : hoS n (slW n W t) = upS n W &&& (t ^^^ (-1 : Int32)) := S8.ext (S8.set _) (S8.andl (S8.set _)) fun j hj => by
  rw [hs_and, hs_nn (by omega), hs_ups hj, hs_hos hj]
  by_cases h : j < n
  · unfold hoB slB
    rw [sW_up hj, sW_3 h h8]
    cases upB W j
    · simp only [Bool.false_and, Bool.and_false]
    · rw [cond_true, mB_1, Bool.true_and, Bool.and_true]
  · rw [decide_eq_false h]; rfl
/-- the sub-world lemmas, apart -/
theorem hgG_w {W' : Nat → Int32} (eu : ∀ p, p < n → upB W' p = true → pv W' p 5 = pv W p 5 ∧ pv W' p 6 &&& hoS n W' = pv W p 6 &&& hoS n W') : hgG n W (upS n W') (hoS n W') = hgS n W' := by
  rw [← hgG_r]
  unfold hgG
  refine set_congr fun p hp => ?_
  by_cases hpn : p < n
  · rw [hs_ups hp]
    cases hu : upB W' p
    · simp only [Bool.and_false, Bool.false_and]
    · rw [(eu p hpn hu).1, (eu p hpn hu).2]
  · rw [decide_eq_false hpn, Bool.false_and, Bool.false_and]
theorem caG_w {W' : Nat → Int32} (e0 : ∀ p, p < n → pv W' p 0 = pv W p 0) (eu : ∀ p, p < n → upB W' p = true → pv W' p 5 = pv W p 5 ∧ pv W' p 6 &&& hoS n W' = pv W p 6 &&& hoS n W') {b : Nat → Int32} : caG n W (upS n W') (hoS n W') b = rCar n W' b := by
  rw [← caG_r]
  unfold caG
  refine car_congr (fun r p _ _ hp => ?_) (fun r p _ _ hp ha => ?_)
  · by_cases hpn : p < n
    · rw [hs_ups hp]
      cases hu : upB W' p
      · simp only [Bool.and_false, Bool.false_and]
      · rw [(eu p hpn hu).1]
    · rw [decide_eq_false hpn, Bool.false_and, Bool.false_and]
  · rw [Bool.and_eq_true, Bool.and_eq_true] at ha
    have hpn := of_decide_eq_true ha.1
    have hu := ha.2.1
    rw [hs_ups hp, Bool.and_eq_true] at hu
    exact ⟨(e0 p hpn).symm, (eu p hpn hu.2).2.symm⟩
theorem hgG_sl {t : Int32} (h8 : n ≤ 8) : hgG n W (upS n W) (upS n W &&& (t ^^^ (-1 : Int32))) = hgS n (slW n W t) := by
  rw [← sW_hos h8, ← sW_ups (t := t)]
  exact hgG_w fun p hp _ => ⟨sW_c (by omega) (by decide) (by decide), by rw [sW_c (by omega) (by decide) (by decide)]⟩
theorem caG_sl {t : Int32} {b : Nat → Int32} (h8 : n ≤ 8) : caG n W (upS n W) (upS n W &&& (t ^^^ (-1 : Int32))) b = rCar n (slW n W t) b := by
  rw [← sW_hos h8, ← sW_ups (t := t)]
  exact caG_w (fun p hp => sW_c (by omega) (by decide) (by decide)) fun p hp _ => ⟨sW_c (by omega) (by decide) (by decide), by rw [sW_c (by omega) (by decide) (by decide)]⟩
/-- as it is -/
theorem sW_id (hw : WF n W) : slW n W (slS n W &&& upS n W) = W := by
  have h8 := hw.2.1
  refine W_ext (fun p c hp hc => ?_) (fun k hk => sW_o hk)
  by_cases h : p < n
  · by_cases h3 : c = 3
    · subst h3
      rw [sW_3 h h8]
      cases hu : upB W p
      · rfl
      · rw [cond_true, hs_and, hs_sls hp, hs_ups hp, decide_eq_true h, hu, Bool.true_and, Bool.and_true, Bool.and_true]
        unfold slB
        rcases hw.sl01 h with e | e <;> rw [e] <;> rfl
    · exact sW_c hp hc h3
  · exact sW_out (by omega) hp hc
/-- what is felt: with those of t asleep nobody hangs, and one bears as now -/
def nhB (n : Nat) (W : Nat → Int32) (t : Int32) : Bool := decide (hgS n (slW n W t) = 0)
def ldT (n : Nat) (W : Nat → Int32) (t : Int32) (p : Nat) : Int32 := rCar n (slW n W t) (fun _ => 0) p
def feB (n : Nat) (W : Nat → Int32) (p t : Nat) : Bool := wi (nI t) (upS n W) && (nhB n W (nI t) && (!hs (nI t) p && decide (ldT n W (nI t) p = rCar n W (fun _ => 0) p)))
/-- those that are kept, in their order -/
def flt (F : Nat → Bool) : Nat → List Nat
  | 0 => []
  | k + 1 => flt F k ++ (bif F k then [k] else [])
theorem flt_s (F : Nat → Bool) (k : Nat) : flt F (k + 1) = flt F k ++ (bif F k then [k] else []) := rfl
theorem flt_len (F : Nat → Bool) : ∀ k, (flt F k).length ≤ k := by
  intro k
  induction k with
  | zero => exact Nat.zero_le _
  | succ k ih =>
    rw [flt_s, List.length_append]
    cases F k
    · show _ + 0 ≤ _
      omega
    · show _ + 1 ≤ _
      omega
theorem flt_cg {F G : Nat → Bool} : ∀ {k : Nat}, (∀ j, j < k → F j = G j) → flt F k = flt G k := by
  intro k
  induction k with
  | zero => intro _; rfl
  | succ k ih => intro h; rw [flt_s, flt_s, ih fun j hj => h j (by omega), h k (by omega)]
end
section
variable {n : Nat} {M : mM}
/-- kept by the class -/
def kpt (n : Nat) (W : Nat → Int32) (L : List Nat) (N : mM) : Prop := N 5 4 = nI L.length ∧ ∀ (i t : Nat), L[i]? = some t → N 6 i = nI t ∧ ∀ j, j < 8 → N 7 (8 * i + j) = ldT n W (nI t) j
theorem C_keep {W : Nat → Int32} {L : List Nat} {N : mM} {t : Nat} (hl : L.length < 256) (h : kpt n W L N) (h8' : ∀ j, j < 8 → N 8 j = ldT n W (nI t) j) : ∃ M1, f_X6_keep (nI t) N = some ((), M1) ∧ kpt n W (L ++ [t]) M1 ∧ ∀ z, z ≠ 5 → z ≠ 6 → z ≠ 7 → M1 z = N z := by
  obtain ⟨h1, h2⟩ := h
  unfold f_X6_keep
  have e1 : decide (nI L.length < 0) = false := decide_eq_false (nI_pos (by omega))
  have e2 : decide ((256 : Int32) ≤ nI L.length) = false := by
    rw [show (256 : Int32) = nI 256 from rfl, i_le (by decide) (by omega)]
    exact decide_eq_false (by omega)
  rw [h1, e1, cond_false, e2, cond_false, gd_t (i_in hl (by decide)), wr_e, i_ix (by omega), mst_no (show 5 ≠ 6 by decide), h1]
  have e3 : nI L.length * (8 : Int32) = nI (L.length * 8) := by rw [show (8 : Int32) = nI 8 from rfl, pk_mul]
  have e4 : mAcB 8 7 (0 : Int32) (nI (L.length * 8)) (8 : Int32) = true := by
    refine decide_eq_true ⟨by decide, by decide, by decide, nI_pos (by omega), by decide, by decide, ?_⟩
    rw [nI_clamp (by omega), show (8 : Int32).toNatClampNeg = 8 from rfl, show (mSh 7).2 = 2048 from rfl]
    omega
  rw [e3, gd_t e4, wr_e, mAc_ne (show 5 ≠ 7 by decide), mst_no (show 5 ≠ 6 by decide), h1, wr_e, i_1]
  refine ⟨_, rfl, ⟨?_, fun i s hi => ?_⟩, fun z z1 z2 z3 => by rw [mst_no z1, mAc_ne z3, mst_no z2]⟩
  · rw [mst_oo, List.length_append]
    rfl
  · rw [mst_no (by decide), mst_no (by decide), mAc_ne (by decide), mAc_q, mst_no (show 8 ≠ 6 by decide), mst_no (show 7 ≠ 6 by decide), nI_clamp (by omega), show (8 : Int32).toNatClampNeg = 8 from rfl, show (0 : Int32).toNatClampNeg = 0 from rfl]
    by_cases hil : i < L.length
    · rw [List.getElem?_append_left hil] at hi
      obtain ⟨g1, g2⟩ := h2 i s hi
      refine ⟨by rw [mst_nk (by omega)]; exact g1, fun j hj => ?_⟩
      rw [pk_cpy_out (by omega)]
      exact g2 j hj
    · rw [List.getElem?_append_right (by omega)] at hi
      have hi0 : i = L.length := by
        cases hq : i - L.length with
        | zero => omega
        | succ q => rw [hq] at hi; cases hi
      subst hi0
      rw [Nat.sub_self] at hi
      cases hi
      refine ⟨mst_oo _ _ _ _, fun j hj => ?_⟩
      rw [pk_cpy_in (by omega) (by omega), show 0 + (8 * L.length + j - L.length * 8) = j by omega]
      exact h8' j hj
theorem within_un {u : Int32} {p q t : Nat} (hp : p < 8) (hq : q < 8) (ht : t < 256) : f_X11_within (nI t) ((u &&& (f_X11_bit (nI p) ^^^ (-1 : Int32))) &&& (f_X11_bit (nI q) ^^^ (-1 : Int32))) = (wi (nI t) u && (!hs (nI t) p && !hs (nI t) q)) := by
  rw [within_iff]
  show wi (nI t) _ = _
  refine bool_iff ?_
  rw [wi_iff (nIs ht), Bool.and_eq_true, wi_iff (nIs ht), Bool.and_eq_true]
  constructor
  · intro h
    refine ⟨fun j hj e => ?_, ?_, ?_⟩
    · have := h j hj e
      rw [hs_and, hs_and, Bool.and_eq_true, Bool.and_eq_true] at this
      exact this.1.1
    · cases e : hs (nI t) p
      · rfl
      · have := h p hp e
        rw [hs_and, hs_and, hs_nn (by omega), hs_bit (by omega) (by omega), decide_eq_true rfl, Bool.not_true, Bool.and_false, Bool.false_and] at this
        cases this
    · cases e : hs (nI t) q
      · rfl
      · have := h q hq e
        rw [hs_and, hs_nn (by omega), hs_bit (by omega) (by omega), decide_eq_true rfl, Bool.not_true, Bool.and_false] at this
        cases this
  · rintro ⟨h1, h2, h3⟩ j hj e
    rw [hs_and, hs_and, hs_nn (by omega), hs_nn (by omega), hs_bit (by omega) (by omega), hs_bit (by omega) (by omega), h1 j hj e]
    by_cases e1 : p = j
    · subst e1; rw [e] at h2; cases h2
    · by_cases e2 : q = j
      · subst e2; rw [e] at h3; cases h3
      · rw [decide_eq_false e1, decide_eq_false e2]; rfl
theorem A8 : mA8B 8 = true := by decide
theorem feB2 {W : Nat → Int32} {p q t : Nat} : (feB n W p t && feB n W q t) = (wi (nI t) (upS n W) && (!hs (nI t) p && !hs (nI t) q) && (nhB n W (nI t) && (decide (ldT n W (nI t) p = rCar n W (fun _ => 0) p) && decide (ldT n W (nI t) q = rCar n W (fun _ => 0) q)))) := by
  unfold feB
  cases wi (nI t) (upS n W) <;> cases nhB n W (nI t) <;> cases hs (nI t) p <;> cases hs (nI t) q <;> cases decide (ldT n W (nI t) p = rCar n W (fun _ => 0) p) <;> cases decide (ldT n W (nI t) q = rCar n W (fun _ => 0) q) <;> rfl
theorem C_gather (h : Rl n M) {p q : Nat} (hp : p < 8) (hq : q < 8) : ∃ M1, f_X6_gather 35 (nI p) (nI q) M = some ((), M1) ∧ kpt n (M 216) (flt (fun t => feB n (M 216) p t && feB n (M 216) q t) 256) M1 ∧ ∀ z, z ≠ 5 → z ≠ 6 → z ≠ 7 → z ≠ 8 → M1 z = M z := by
  have h8 := h.h8
  unfold f_X6_gather f_X6_gather_l18
  rw [gd_t T35, wr_e, mst_no (show 35 ≠ 5 by decide), h.up]
  generalize hF : (fun t => feB n (M 216) p t && feB n (M 216) q t) = F
  refine wh_V (fun k (s : Int32 × mM) => s.1 = nI k ∧ kpt n (M 216) (flt F k) s.2 ∧ ∀ z, z ≠ 5 → z ≠ 6 → z ≠ 7 → z ≠ 8 → s.2 z = M z) () _ 256 _ _ ⟨rfl, ⟨mst_oo M 5 4 0, fun i t hi => by cases hi⟩, fun z z1 _ _ _ => mst_no (M := M) (o := 5) (k := 4) (v := 0) z1⟩ (fun k hk s hs' => ?_) (fun s hs' => ?_) (by decide)
  · obtain ⟨i, N⟩ := s
    obtain ⟨h1, h2, h3⟩ := hs'
    dsimp only at h1 h2 h3
    subst h1
    have t : TR n (M 216) N 35 := h.tr.mv h8 (eqT.rf fun j hj _ => h3 _ (by omega) (by omega) (by omega) (by omega))
    have e42 : ∀ j, j < 8 → N (35 + 7) j = rCar n (M 216) (fun _ => 0) j := fun j hj => by rw [h3 _ (by decide) (by decide) (by decide) (by decide)]; exact h.ts.2.2 j hj
    show ∃ s', f_X6_gather_18 35 (nI p) (nI q) _ (nI k) N = some (.inr s') ∧ _
    unfold f_X6_gather_18
    have e256 : decide ((256 : Int32) ≤ nI k) = false := by
      rw [show (256 : Int32) = nI 256 from rfl, i_le (by decide) (by omega)]
      exact decide_eq_false (by omega)
    have eF : F k = (wi (nI k) (upS n (M 216)) && (!hs (nI k) p && !hs (nI k) q) && (nhB n (M 216) (nI k) && (decide (ldT n (M 216) (nI k) p = rCar n (M 216) (fun _ => 0) p) && decide (ldT n (M 216) (nI k) q = rCar n (M 216) (fun _ => 0) q)))) := by rw [← hF]; exact feB2
    have no : F k = false → ∀ N' : mM, kpt n (M 216) (flt F k) N' → (∀ z, z ≠ 5 → z ≠ 6 → z ≠ 7 → z ≠ 8 → N' z = M z) → ((nI (k + 1), N') : Int32 × mM).1 = nI (k + 1) ∧ kpt n (M 216) (flt F (k + 1)) N' ∧ ∀ z, z ≠ 5 → z ≠ 6 → z ≠ 7 → z ≠ 8 → N' z = M z := fun e N' g1 g2 => ⟨rfl, by rw [flt_s, e, cond_false, List.append_nil]; exact g1, g2⟩
    rw [e256, cond_false, within_un hp hq (by omega), i_1]
    cases c1 : wi (nI k) (upS n (M 216)) && (!hs (nI k) p && !hs (nI k) q)
    · rw [c1, Bool.false_and] at eF
      rw [cond_false]
      exact ⟨_, rfl, no eF N h2 h3⟩
    · rw [c1, Bool.true_and] at eF
      rw [cond_true, t.2.1, T_hang T35, b1_s, t.hg sub_rf, hgG_sl h8, dn]
      change F k = (decide (hgS n (slW n (M 216) (nI k)) = 0) && _) at eF
      cases c2 : decide (hgS n (slW n (M 216) (nI k)) = 0)
      · rw [c2, Bool.false_and] at eF
        rw [Bool.not_false, cond_true]
        exact ⟨_, rfl, no eF N h2 h3⟩
      · rw [c2, Bool.true_and] at eF
        rw [Bool.not_true, cond_false, T_carry T35 A8 (by decide) (by decide) (by decide), b2_s]
        have eL : ∀ j, j < 8 → car (tAct N 35 (upS n (M 216))) (N (35 + 1)) (tBy N 35 (upS n (M 216) &&& (nI k ^^^ (-1 : Int32)))) (N 8) j = ldT n (M 216) (nI k) j := fun j hj => by
          have := t.car (ups := upS n (M 216)) (hd := upS n (M 216) &&& (nI k ^^^ (-1 : Int32))) sub_rf (b := N 8)
          unfold tCar at this
          rw [this, caG_sl h8]
          exact rCar_in hj
        generalize car (tAct N 35 (upS n (M 216))) (N (35 + 1)) (tBy N 35 (upS n (M 216) &&& (nI k ^^^ (-1 : Int32)))) (N 8) = B at eL
        have k8 : kpt n (M 216) (flt F k) (rs N 8 B) := ⟨by rw [rs_ne (by decide)]; exact h2.1, fun i t hi => by rw [rs_ne (by decide), rs_ne (by decide)]; exact h2.2 i t hi⟩
        have f8 : ∀ z, z ≠ 5 → z ≠ 6 → z ≠ 7 → z ≠ 8 → rs N 8 B z = M z := fun z z1 z2 z3 z4 => by rw [rs_ne z4]; exact h3 z z1 z2 z3 z4
        rw [gd_t (i_in hp i_28), gd_t (i_in hp i_28), i_ix (by omega), rs_at, rs_ne (show 35 + 7 ≠ 8 by decide), e42 p hp, eL p hp, dn]
        cases c3 : decide (ldT n (M 216) (nI k) p = rCar n (M 216) (fun _ => 0) p)
        · rw [c3, Bool.false_and] at eF
          rw [Bool.not_false, cond_true]
          exact ⟨_, rfl, no eF _ k8 f8⟩
        · rw [c3, Bool.true_and] at eF
          rw [Bool.not_true, cond_false, gd_t (i_in hq i_28), gd_t (i_in hq i_28), i_ix (by omega), e42 q hq, eL q hq, dn]
          cases c4 : decide (ldT n (M 216) (nI k) q = rCar n (M 216) (fun _ => 0) q)
          · rw [c4] at eF
            rw [Bool.not_false, cond_true]
            exact ⟨_, rfl, no eF _ k8 f8⟩
          · rw [c4] at eF
            rw [Bool.not_true, cond_false]
            have := flt_len F k
            obtain ⟨M1, a1, a2, a3⟩ := C_keep (t := k) (by omega) k8 (fun j hj => by rw [rs_at]; exact eL j hj)
            rw [b2_a a1]
            refine ⟨_, rfl, rfl, ?_, fun z z1 z2 z3 z4 => (a3 z z1 z2 z3).trans (f8 z z1 z2 z3 z4)⟩
            rw [flt_s, eF, cond_true]
            exact a2
  · obtain ⟨i, N⟩ := s
    obtain ⟨h1, h2, h3⟩ := hs'
    dsimp only at h1 h2 h3
    subst h1
    show ∃ M', f_X6_gather_18 35 (nI p) (nI q) _ (nI 256) N = _ ∧ _
    unfold f_X6_gather_18
    rw [show decide ((256 : Int32) ≤ nI 256) = true from rfl, cond_true]
    exact ⟨_, rfl, h2, h3⟩
end
