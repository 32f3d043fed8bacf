/-! texts of the tower: persons, ups, sleepers -/
def hC1 (X X' : mM) : Prop := (∀ z, z ≠ 1 → (z < 47 ∨ 58 < z) → X' z = X z) ∧ X' 1 1 = X 1 1
def hM1 (Y Y' : mM) : Prop := (∀ z, z ≠ 215 → z ≠ 216 → Y' z = Y z) ∧ (∀ k, k ≠ 14 → k ≠ 16 → Y' 215 k = Y 215 k) ∧ (∀ k, 424 ≤ k → Y' 216 k = Y 216 k) ∧ Y' 216 2 = Y 216 2 ∧ Y' 216 1 = Y 216 1
theorem hC1.rf {X : mM} : hC1 X X := ⟨fun _ _ _ => rfl, rfl⟩
theorem hM1.rf {X : mM} : hM1 X X := ⟨fun _ _ _ => rfl, fun _ _ _ => rfl, fun _ _ => rfl, rfl, rfl⟩
theorem hC1.tr {X Y Z : mM} (h : hC1 X Y) (h' : hC1 Y Z) : hC1 X Z := ⟨fun z h1 h2 => (h'.1 z h1 h2).trans (h.1 z h1 h2), h'.2.trans h.2⟩
theorem hM1.tr {X Y Z : mM} (h : hM1 X Y) (h' : hM1 Y Z) : hM1 X Z := ⟨fun z h1 h2 => (h'.1 z h1 h2).trans (h.1 z h1 h2), fun k h1 h2 => (h'.2.1 k h1 h2).trans (h.2.1 k h1 h2), fun k h1 => (h'.2.2.1 k h1).trans (h.2.2.1 k h1), h'.2.2.2.1.trans h.2.2.2.1, h'.2.2.2.2.trans h.2.2.2.2⟩
theorem fC.g {X X' : mM} (h : fC X X') : hC1 X X' := ⟨fun z h1 _ => h.1 z h1, h.2⟩
theorem fM.g {X X' : mM} (h : fM X X') : hM1 X X' := ⟨fun z h1 _ => h.1 z h1, h.2, fun k _ => by rw [h.1 216 (by decide)], by rw [h.1 216 (by decide)], by rw [h.1 216 (by decide)]⟩
theorem hC1.of {X X' : mM} (h : ∀ z, (z < 47 ∨ 58 < z) → X' z = X z) : hC1 X X' := ⟨fun z _ h2 => h z h2, by rw [h 1 (by decide)]⟩
theorem hM1.w {Y : mM} {W : Nat → Int32} (h : ∀ k, 424 ≤ k → W k = Y 216 k) (h2 : W 2 = Y 216 2) (h1 : W 1 = Y 216 1) : hM1 Y (rs Y 216 W) := ⟨fun z _ z2 => rs_ne z2, fun k _ _ => by rw [rs_ne (by decide)], fun k hk => by rw [rs_at]; exact h k hk, by rw [rs_at]; exact h2, by rw [rs_at]; exact h1⟩
theorem tC.cg {X X' : mM} {L : Nat} {B : Nat → Nat} {a : Nat} (h : tC X L B a) (e1 : X' 1 = X 1) (e2 : X' 2 = X 2) : tC X' L B a := ⟨by rw [e1]; exact h.1, fun i hi => by rw [e2]; exact h.2.1 i hi, by rw [e1]; exact h.2.2.1, by rw [e1]; exact h.2.2.2⟩
theorem tM.cg {X X' : mM} {L : Nat} {B : Nat → Nat} {a : Nat} (h : tM X L B a) (e1 : X' 215 = X 215) (e2 : X' 223 = X 223) : tM X' L B a := ⟨by rw [e1]; exact h.1, fun i hi => by rw [e2]; exact h.2.1 i hi, by rw [e1]; exact h.2.2⟩
/-- what both have by then -/
def DT (n : Nat) (X Y : mM) : Prop := WF n (Y 216) ∧ TR n (Y 216) X 47
theorem DT.fC {n : Nat} {X X' Y : mM} (h : DT n X Y) (f : fC X X') : DT n X' Y := ⟨h.1, h.2.mv h.1.2.1 (eqT.rf fun j hj _ => f.1 _ (by omega))⟩
theorem DT.fM {n : Nat} {X Y Y' : mM} (h : DT n X Y) (f : fM Y Y') : DT n X Y' := by
  unfold DT
  rw [f.1 216 (by decide)]
  exact h
/-- both go on alike, or both stop at one byte -/
def RsT (L : Nat) (B : Nat → Nat) (X Y : mM) (c m : Option (Bool × mM)) : Prop :=
  (∃ X' Y' n' p', c = some (true, X') ∧ m = some (true, Y') ∧ p' ≤ L ∧ tC X' L B (sB L B p') ∧ tM Y' L B p' ∧ DT n' X' Y' ∧ hC1 X X' ∧ hM1 Y Y') ∨
  (∃ X' Y' w, c = some (false, X') ∧ m = some (false, Y') ∧ w ≤ L ∧ X' 1 3 = nI w ∧ Y' 215 16 = nI w ∧ hC1 X X' ∧ hM1 Y Y')
theorem RsT.mv {L : Nat} {B : Nat → Nat} {X X0 Y Y0 : mM} {c m : Option (Bool × mM)} (h : RsT L B X Y c m) (f : hC1 X0 X) (g : hM1 Y0 Y) : RsT L B X0 Y0 c m := by
  rcases h with ⟨X', Y', n', p', h1, h2, h3, h4, h5, h6, h7, h8⟩ | ⟨X', Y', w, h1, h2, h3, h4, h5, h6, h7⟩
  · exact Or.inl ⟨X', Y', n', p', h1, h2, h3, h4, h5, h6, f.tr h7, g.tr h8⟩
  · exact Or.inr ⟨X', Y', w, h1, h2, h3, h4, h5, f.tr h6, g.tr h7⟩
theorem RsT.no {L : Nat} {B : Nat → Nat} {X Y X' Y' : mM} {c m : Option (Bool × mM)} {w : Nat} (hc : c = some (false, X')) (hm : m = some (false, Y')) (hw : w ≤ L) (h1 : X' 1 3 = nI w) (h2 : Y' 215 16 = nI w) (f : hC1 X X') (g : hM1 Y Y') : RsT L B X Y c m := Or.inr ⟨X', Y', w, hc, hm, hw, h1, h2, f, g⟩
theorem RsT.yes {L : Nat} {B : Nat → Nat} {X Y X' Y' : mM} {c m : Option (Bool × mM)} {n' p' : Nat} (hc : c = some (true, X')) (hm : m = some (true, Y')) (hp : p' ≤ L) (h1 : tC X' L B (sB L B p')) (h2 : tM Y' L B p') (h3 : DT n' X' Y') (f : hC1 X X') (g : hM1 Y Y') : RsT L B X Y c m := Or.inl ⟨X', Y', n', p', hc, hm, hp, h1, h2, h3, f, g⟩
section
variable {L : Nat} {B : Nat → Nat} {n : Nat}
theorem nm1 {x : Nat} (h : x < 2 ^ 31) : decide (nI x = (-1 : Int32)) = false := decide_eq_false fun z => nI_pos h (by rw [z]; decide)
theorem nm1' {x : Nat} (h : x < 2 ^ 31) : decide (¬ nI x = (-1 : Int32)) = true := decide_eq_true fun z => nI_pos h (by rw [z]; decide)
theorem i_0le {x : Nat} (h : x < 2 ^ 31) : decide ((0 : Int32) ≤ nI x) = true := decide_eq_true (nI_pos' h)
theorem in_lo {v lo : Nat} (hv : v < 2 ^ 31) (hl : lo < 2 ^ 31) (h : ¬ nI v < nI lo) : lo ≤ v := Classical.byContradiction fun hc => h (nI_lt (by omega) hl)
theorem in_hi {v hi : Nat} (hv : v < 2 ^ 31) (hl : hi < 2 ^ 31) (h : nI v ≤ nI hi) : v ≤ hi := Classical.byContradiction fun hc => nI_ge (show hi < v by omega) hv h
theorem t_person (hT : txt L B) {X Y : mM} {p : Nat} (hp : p ≤ L) (hX : tC X L B (sB L B p)) (hY : tM Y L B p) (hD : DT n X Y) (hn : n < 8) : RsT L B X Y (f_X10_readPerson 47 X) (f_X12_readPerson Y) := by
  obtain ⟨o1, o2⟩ := okw (o := 401) (by decide) (by decide) (by decide)
  obtain ⟨o3, o4⟩ := okw (o := 402) (by decide) (by decide) (by decide)
  have hm0 : f_X12_readPerson Y = b2 (f_X12_after 401 (1 : Int32) (99 : Int32) Y) (fun v26 M26 => bif decide (0 ≤ v26) then (b2 (f_X12_after 402 (0 : Int32) (999 : Int32) M26) (fun v28 M28 => f_X12_readPerson_23 (nI n) v26 v28 M28)) else (f_X12_readPerson_23 (nI n) v26 (-1 : Int32) M26)) := by
    unfold f_X12_readPerson
    rw [m_ppl hD.1.1, b1_s, dn, show decide (nI n = (8 : Int32)) = decide (n = 8) from i_eq (b := 8) (by omega) (by decide), decide_eq_false (by omega), Bool.not_false, cond_true]
  rw [hm0]
  have f23 : ∀ v Z, f_X12_readPerson_23 (nI n) v (-1) Z = some (false, Z) := fun v Z => rfl
  unfold f_X10_readPerson
  rw [gd_t T47]
  rcases afB hT hp hX hY o1 o2 (lo := 1) (hi := 99) with ⟨X1, X2, Y1, v, p1, c1, c2, c3, c4, c5, c6, c7, c8, c9, c10, c11⟩ | ⟨X1, Y1, w, c1, c2, c3, c4, c5, c6, c7⟩ | ⟨X1, X2, Y1, w, c1, c2, c3, c4, c5, c6, c7, c8⟩
  · have hv1 : 1 ≤ v := in_lo (lo := 1) (by omega) (by decide) c8
    have hv2 : v ≤ 99 := in_hi (hi := 99) (by omega) (by decide) c9
    rw [c1, b2_s, cond_true, c2, b2_s, nm1 (by omega), cond_false, c3, b2_s, i_0le (by omega), cond_true]
    rcases afB hT c4 c5 c6 o3 o4 (lo := 0) (hi := 999) with ⟨X3, X4, Y3, u, p2, d1, d2, d3, d4, d5, d6, d7, d8, d9, d10, d11⟩ | ⟨X3, Y3, w, d1, d2, d3, d4, d5, d6, d7⟩ | ⟨X3, X4, Y3, w, d1, d2, d3, d4, d5, d6, d7, d8⟩
    · have hu : u ≤ 999 := in_hi (hi := 999) (by omega) (by decide) d9
      have hD2 : DT n X4 Y3 := ((hD.fC (c10.tr d10)).fM (c11.tr d11))
      rw [d1, b2_s, cond_true, d2, b2_s, nm1' (by omega), cond_true, C_addP T47 hD2.2.1 hn, b2_s, d3, b2_s, M_add hD2.1.1 hn (by omega)]
      refine RsT.yes (n' := n + 1) rfl rfl d4 (d5.cg ?_ ?_) (d6.cg (rs_ne (by decide)) (rs_ne (by decide))) ?_ ((c10.tr d10).g.tr (hC1.of fun z hz => ?_)) ((c11.tr d11).g.tr (hM1.w (fun k hk => wN_o (by omega) (by omega)) (wN_o (by decide) (by omega)) (wN_o (by decide) (by omega))))
      · unfold addC
        rw [mst_no (by decide), mst_no (by decide), mst_no (by decide), mst_no (by decide)]
      · unfold addC
        rw [mst_no (by decide), mst_no (by decide), mst_no (by decide), mst_no (by decide)]
      · unfold DT
        rw [rs_at]
        exact ⟨hD2.1.nw hn hv1 hv2 hu, hD2.2.nw hn⟩
      · unfold addC
        rw [mst_no (by omega), mst_no (by omega), mst_no (by omega), mst_no (by omega)]
    · rw [d1, b2_s, cond_false, d2, b2_s, f23]
      exact RsT.no rfl rfl d5 d3 d4 (c10.tr d6).g (c11.tr d7).g
    · rw [d1, b2_s, cond_true, d2, b2_s, show decide (¬ (-1 : Int32) = (-1 : Int32)) = false from rfl, cond_false, d3, b2_s, f23]
      exact RsT.no rfl rfl d6 d4 d5 (c10.tr d7).g (c11.tr d8).g
  · rw [c1, b2_s, cond_false, c2, b2_s, show decide ((0 : Int32) ≤ (-1 : Int32)) = false from rfl, cond_false, f23]
    exact RsT.no rfl rfl c5 c3 c4 c6.g c7.g
  · rw [c1, b2_s, cond_true, c2, b2_s, show decide ((-1 : Int32) = (-1 : Int32)) = true from rfl, cond_true, c3, b2_s, show decide ((0 : Int32) ≤ (-1 : Int32)) = false from rfl, cond_false, f23]
    exact RsT.no rfl rfl c6 c4 c5 c7.g c8.g
theorem C_isP2 {W : Nat → Int32} {X : mM} {o : Nat} (h : TR n W X o) (h8 : n ≤ 8) (ho : mTwB o = true) {k : Nat} (hk : k < n) : f_X9_isPerson o (nI k) X = some true := by
  unfold f_X9_isPerson
  rw [gd_t ho, decide_eq_false (nI_pos (by omega)), cond_false, i_8 (by omega), cond_false, h.1, i_ge (by omega) (by omega), decide_eq_true hk, Bool.not_true, cond_false]
theorem C_inR2 {W : Nat → Int32} {X : mM} {o : Nat} (h : TR n W X o) (ho : mTwB o = true) {r : Int32} (hr : r ≠ -1) : f_X9_inRing o r X = some (rgS n W r) := by
  unfold f_X9_inRing rgS f_X9_inRing_l4
  rw [gd_t ho]
  refine wh_8e (fun k => (setK (fun p => decide (p < n) && decide (pv W p 5 = r)) k, nI k)) _ rfl ?_ ?_
  · intro k hk
    show f_X9_inRing_4 o r _ (nI k) X = _
    unfold f_X9_inRing_4
    rw [bif_f (i_8 hk)]
    simp only [has_hs (show k < 32 by omega), gd_t (i_in hk i_28), i_ix (show k < 2 ^ 31 by omega), i_1, dn, b1_s, b2_s, wr_e]
    rw [setK_s, h.2.1, hs_ups hk]
    generalize setK (fun p => decide (p < n) && decide (pv W p 5 = r)) k = z
    cases e1 : decide (k < n)
    · rfl
    · cases e2 : upB W k
      · have : decide (pv W k 5 = r) = false := by
          refine decide_eq_false fun z => hr ?_
          unfold upB at e2
          cases e3 : decide (pv W k 5 = -1)
          · rw [e3] at e2; cases e2
          · rw [← z]; exact of_decide_eq_true e3
        rw [this]; rfl
      · rw [show X (o + 5) k = pv W k 5 from (h.pp (of_decide_eq_true e1)).2.2.2.2.2 e2]
        cases decide (pv W k 5 = r) <;> rfl
  · show f_X9_inRing_4 o r _ (nI 8) X = _
    unfold f_X9_inRing_4
    rw [bif_t i_88]
    rfl
/-- one who comes up, by both -/
theorem t_up2 {X Y : mM} (hD : DT n X Y) {k r : Nat} (hk : k < n) (hd : upB (Y 216) k = false) (hr : r ≤ 4) {on : Int32} (hS : S8 on) (hf : fitB n (Y 216) (nI r) on = true) : ∃ X', f_X10_readUp_67 47 (nI k) (nI r) on X = some (true, X') ∧ DT n X' (rs Y 216 (wUp (Y 216) k (nI r) on)) ∧ ∀ z, (z < 47 ∨ 58 < z) → X' z = X z := by
  have h8 := hD.1.2.1
  obtain ⟨g1, g2⟩ := fit_sub hr hS hf
  unfold f_X10_readUp_67
  rw [T_bring T47 (by omega), b2_s]
  refine ⟨_, rfl, ?_, fun z hz => by rw [mst_no (by omega), mst_no (by omega), mst_no (by omega)]⟩
  unfold DT
  rw [rs_at]
  exact ⟨hD.1.rise hk hd hr rfl hS g1 g2, hD.2.bring h8 hk (nI_m1 hr)⟩
theorem t_up3 {Y : mM} {k r : Nat} (hk : k < 8) {on : Int32} (h : decide ((0 : Int32) ≤ on) = true) : f_X12_readUp_44 (nI k) (nI r) on Y = some (true, rs Y 216 (wUp (Y 216) k (nI r) on)) := by
  unfold f_X12_readUp_44
  rw [h, cond_true, show (5 : Int32) = nI 5 from rfl, show (6 : Int32) = nI 6 from rfl, i_at, i_at, gd_t (i_in (by omega) (by decide)), wr_e, gd_t (i_in (by omega) (by decide)), wr_e, i_ix (by omega), i_ix (by omega), mst_rs Y, rs_st]
  rfl
theorem s8_pos {s : Int32} (h : S8 s) : decide ((0 : Int32) ≤ s) = true := by
  obtain ⟨k, hk, rfl⟩ := h.nat
  exact i_0le (by omega)
theorem wU_g {Y : mM} {k : Nat} {r on : Int32} (hk : k < 8) : hM1 Y (rs Y 216 (wUp (Y 216) k r on)) := hM1.w (fun j hj => wU_o hk (by omega)) (wU_o hk (by decide)) (wU_o hk (by decide))
theorem t_up (hT : txt L B) {X Y : mM} {p : Nat} (hp : p ≤ L) (hX : tC X L B (sB L B p)) (hY : tM Y L B p) (hD : DT n X Y) : RsT L B X Y (f_X10_readUp 47 X) (f_X12_readUp Y) := by
  have h8 := hD.1.2.1
  obtain ⟨o1, o2⟩ := okw (o := 404) (by decide) (by decide) (by decide)
  obtain ⟨o3, o4⟩ := okw (o := 405) (by decide) (by decide) (by decide)
  obtain ⟨s1, s2⟩ := sB_le (B := B) hp
  unfold f_X10_readUp f_X12_readUp
  rw [gd_t T47, hD.2.1, hX.2.2.1, m_ppl hD.1.1, b1_s]
  rcases nmB hT hp hX hY (lo := 0) (hi := nI n - 1) with ⟨X1, Y1, v, p1, c1, c2, -, c3, c4, c5, c6, c7, c8, c9, c10, c11⟩ | ⟨X1, Y1, c1, c2, c3, c4, c5, c6⟩
  · have hvn : v < n := by
      by_cases h0 : n = 0
      · subst h0
        exact absurd c9 (fun z => nI_pos (show v < 2 ^ 31 by omega) (Int32.lt_of_le_of_lt z (by decide)))
      · obtain ⟨y, rfl⟩ : ∃ y, n = y + 1 := ⟨n - 1, by omega⟩
        rw [nI_pred] at c9
        have := in_hi (by omega) (by omega) c9
        omega
    have hD1 : DT n X1 Y1 := (hD.fC c10).fM c11
    rw [c1, b2_s, nm1' (by omega), cond_true, C_isP2 hD1.2 h8 T47 hvn, b1_s, cond_true, hD1.2.2.1, has_hs (by omega), hs_ups (by omega), decide_eq_true hvn, Bool.true_and, c2, b2_s, decide_eq_false (nI_pos (show v < 2 ^ 31 by omega)), cond_false, m_isUp (by omega), b1_s]
    cases hu : upB (Y1 216) v
    · rw [cond_false, cond_false]
      have hm44 : ∀ Z, f_X12_readUp_43 (nI v) (-1) (-1) Z = some (false, Z) := fun Z => rfl
      have hm45 : ∀ (x : Int32) Z, f_X12_readUp_43 (nI v) x (-1) Z = some (false, Z) := fun x Z => rfl
      rcases afB hT c3 c4 c5 o1 o2 (lo := 0) (hi := 4) with ⟨X2, X3, Y2, r, p2, d1, d2, d3, d4, d5, d6, d7, d8, d9, d10, d11⟩ | ⟨X2, Y2, w, d1, d2, d3, d4, d5, d6, d7⟩ | ⟨X2, X3, Y2, w, d1, d2, d3, d4, d5, d6, d7, d8⟩
      · have hr : r ≤ 4 := in_hi (hi := 4) (by omega) (by decide) d9
        have hD2 : DT n X3 Y2 := (hD1.fC d10).fM d11
        have hu2 : upB (Y2 216) v = false := by rw [d11.1 216 (by decide)]; exact hu
        rw [d1, b2_s, cond_true, d2, b2_s, nm1' (by omega), cond_true, d3, b2_s, i_0le (by omega), cond_true, show decide (nI r ≤ (0 : Int32)) = decide (r ≤ 0) from i_le (b := 0) (by omega) (by decide)]
        by_cases hr0 : r ≤ 0
        · have r0 : r = 0 := by omega
          subst r0
          obtain ⟨X4, x1, x2, x3⟩ := t_up2 hD2 hvn hu2 (r := 0) (by decide) S8.zero rfl
          rw [decide_eq_true hr0, cond_true, cond_true, x1, t_up3 (by omega) rfl]
          exact RsT.yes rfl rfl d4 (d5.cg (x3 1 (by decide)) (x3 2 (by decide))) (d6.cg (rs_ne (by decide)) (rs_ne (by decide))) x2 ((c10.tr d10).g.tr (hC1.of x3)) ((c11.tr d11).g.tr (wU_g (by omega)))
        · rw [decide_eq_false hr0, cond_false, cond_false]
          -- the word on, and the letters
          obtain ⟨m1, m2⟩ := C_must hT d5 (sB_le d4).2 o3 o4
          obtain ⟨Y3, y1, y2, y3, y4⟩ := M_letters hT d6 d4
          have yw := M_isWord hT d4 y2 y3 o3 o4
          rw [y1, b2_s, yw, b1_s]
          cases cw : isW L B (sB L B p2) (mTt 405)
          · rw [m2 cw, b2_s, cond_false, cond_false, hm45]
            unfold f_X10_readUp_62
            rw [show decide (¬ (0 : Int32) = 0) = false from rfl, cond_false]
            exact RsT.no rfl rfl (sB_le d4).2 (mst_oo _ _ _ _) y3 ((c10.tr d10).g.tr (fC.st (by decide)).g) ((c11.tr d11).g.tr y4.g)
          · obtain ⟨l1, X4, x1, x2, x3⟩ := m1 cw
            rw [wL_of cw] at y2
            have hD3 : DT n X4 Y3 := (hD2.fC x3).fM y4
            have hu3 : upB (Y3 216) v = false := by rw [y4.1 216 (by decide)]; exact hu2
            obtain ⟨y, rfl⟩ : ∃ y, r = y + 1 := ⟨r - 1, by omega⟩
            obtain ⟨Y4, z1, z2, z3, z4⟩ := M_lettersOf hT (r := y) l1 y2 hD3.1.1 h8
            obtain ⟨k1, k2⟩ := C_letters hT x2 (sB_le l1).2 (S := rgS n (Y3 216) (nI y))
            rw [x1, b2_s, cond_true, nI_pred, C_inR2 hD3.2 T47 (nI_m1 (by omega)), b1_s, cond_true, z1, b2_s]
            have ewl : wL L B (sB L B p2 + (mTt 405).length) = sk L (cL B) (sB L B (sB L B p2 + (mTt 405).length)) := rfl
            rw [ewl]
            generalize hq : sB L B (sB L B p2 + (mTt 405).length) = q at k1 k2 x2 z3 ⊢
            have hqL : q ≤ L := by rw [← hq]; exact (sB_le l1).2
            have ez2 : tM Y4 L B (sk L (cL B) q) := by rw [← hq]; exact z2
            generalize hm : sk L (cL B) q - q = m at k1 k2 ⊢
            cases cl : decide (0 < m) && okS (rgS n (Y3 216) (nI y)) (lB B q) m
            · obtain ⟨X5, w1, w2, w3⟩ := k2 cl
              rw [w1, b2_s, cond_false, hm45]
              unfold f_X10_readUp_62
              rw [show decide (¬ (0 : Int32) = 0) = false from rfl, cond_false]
              exact RsT.no rfl rfl hqL w2 z3 (((c10.tr d10).tr x3).tr w3).g (((c11.tr d11).tr y4).tr z4).g
            · obtain ⟨X5, w1, w2, w3⟩ := k1 cl
              rw [Bool.and_eq_true] at cl
              obtain ⟨e1, e2⟩ := okS_S cl.2
              have hne := tdS_ne (of_decide_eq_true cl.1) (okS_b (of_decide_eq_true cl.1) cl.2).1
              have hD4 : DT n X5 Y4 := (hD3.fC w3).fM z4
              have hu4 : upB (Y4 216) v = false := by rw [z4.1 216 (by decide)]; exact hu3
              have hfit : fitB n (Y4 216) (nI (y + 1)) (tdS (lB B q) m) = true := by
                unfold fitB
                rw [show decide (nI (y + 1) = 0) = false from decide_eq_false (nI_ne0 (by omega) (by omega)), cond_false, decide_eq_false hne, Bool.not_false, Bool.true_and, nI_pred, z4.1 216 (by decide)]
                refine decide_eq_true (S8.ext (S8.andl e1) S8.zero fun j hj => ?_)
                rw [hs_and, hs_nn (by omega), hs_0]
                cases ej : hs (tdS (lB B q) m) j
                · rfl
                · rw [e2 j hj ej]; rfl
              obtain ⟨X6, u1, u2, u3⟩ := t_up2 hD4 hvn hu4 hr e1 hfit
              rw [w1, b2_s, cond_true]
              unfold f_X10_readUp_62 f_X12_readUp_43
              rw [decide_eq_true hne, cond_true, u1, t_up3 (by omega) (s8_pos e1)]
              exact RsT.yes rfl rfl (sk_L hqL) (w2.cg (u3 1 (by decide)) (u3 2 (by decide))) (ez2.cg (rs_ne (by decide)) (rs_ne (by decide))) u2 ((((c10.tr d10).tr x3).tr w3).g.tr (hC1.of u3)) ((((c11.tr d11).tr y4).tr z4).g.tr (wU_g (by omega)))
      · rw [d1, b2_s, cond_false, d2, b2_s, show decide ((0 : Int32) ≤ (-1 : Int32)) = false from rfl, cond_false]
        exact RsT.no rfl rfl d5 d3 d4 (c10.tr d6).g (c11.tr d7).g
      · rw [d1, b2_s, cond_true, d2, b2_s, show decide (¬ (-1 : Int32) = (-1 : Int32)) = false from rfl, cond_false, d3, b2_s, show decide ((0 : Int32) ≤ (-1 : Int32)) = false from rfl, cond_false]
        exact RsT.no rfl rfl d6 d4 d5 (c10.tr d7).g (c11.tr d8).g
    · rw [cond_true, cond_true]
      unfold f_X10_readUp_25
      rw [C_wrong c4.2.2.2, b2_s]
      exact RsT.no rfl rfl s2 (mst_oo _ _ _ _) c6 (c10.tr (fC.st (by decide))).g c11.g
  · rw [c1, b2_s, show decide (¬ (-1 : Int32) = (-1 : Int32)) = false from rfl, cond_false, c2, b2_s, show decide ((-1 : Int32) < 0) = true from rfl, cond_true]
    exact RsT.no rfl rfl s2 c3 c4 c5.g c6.g
theorem t_asleep (hT : txt L B) {X Y : mM} {p : Nat} (hp : p ≤ L) (hX : tC X L B (sB L B p)) (hY : tM Y L B p) (hD : DT n X Y) : RsT L B X Y (f_X10_readAsleep 47 X) (f_X12_readAsleep Y) := by
  have h8 := hD.1.2.1
  obtain ⟨s1, s2⟩ := sB_le (B := B) hp
  unfold f_X10_readAsleep f_X12_readAsleep
  rw [gd_t T47, hD.2.1, hX.2.2.1, m_ppl hD.1.1, b1_s]
  rcases nmB hT hp hX hY (lo := 0) (hi := nI n - 1) with ⟨X1, Y1, v, p1, c1, c2, -, c3, c4, c5, c6, c7, c8, c9, c10, c11⟩ | ⟨X1, Y1, c1, c2, c3, c4, c5, c6⟩
  · have hvn : v < n := by
      by_cases h0 : n = 0
      · subst h0
        exact absurd c9 (fun z => nI_pos (show v < 2 ^ 31 by omega) (Int32.lt_of_le_of_lt z (by decide)))
      · obtain ⟨y, rfl⟩ : ∃ y, n = y + 1 := ⟨n - 1, by omega⟩
        rw [nI_pred] at c9
        have := in_hi (by omega) (by omega) c9
        omega
    have hD1 : DT n X1 Y1 := (hD.fC c10).fM c11
    rw [c1, b2_s, nm1' (by omega), cond_true, hD1.2.2.2.1, has_hs (by omega), hs_sls (by omega), decide_eq_true hvn, Bool.true_and, c2, b2_s, decide_eq_false (nI_pos (show v < 2 ^ 31 by omega)), cond_false, m_isAs (by omega), b1_s]
    cases hu : slB (Y1 216) v
    · rw [cond_false, cond_false, wr_e, show (3 : Int32) = nI 3 from rfl, i_at, gd_t (i_in (by omega) (by decide)), wr_e, i_ix (by omega), sl_1 h8 hvn, mst_rs Y1]
      refine RsT.yes rfl rfl c3 (c4.cg (mst_no (by decide)) (mst_no (by decide))) (c5.cg (rs_ne (by decide)) (rs_ne (by decide))) (n' := n) ?_ (c10.g.tr (hC1.of fun z hz => mst_no (by omega))) (c11.g.tr (hM1.w (fun k hk => upd_ne (by omega)) (upd_ne (by omega)) (upd_ne (by omega))))
      unfold DT
      rw [rs_at]
      exact ⟨hD1.1.slp hvn (Or.inr rfl), hD1.2.sl h8 hvn rfl⟩
    · rw [cond_true, cond_true, C_wrong c4.2.2.2, b2_s]
      exact RsT.no rfl rfl s2 (mst_oo _ _ _ _) c6 (c10.tr (fC.st (by decide))).g c11.g
  · rw [c1, b2_s, show decide (¬ (-1 : Int32) = (-1 : Int32)) = false from rfl, cond_false, c2, b2_s, show decide ((-1 : Int32) < 0) = true from rfl, cond_true]
    exact RsT.no rfl rfl s2 c3 c4 c5.g c6.g
end
