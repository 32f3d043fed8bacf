/-! texts of a law: tokens, parts, sums -/
section
variable {L : Nat} {B : Nat → Nat} {X Y : mM} {p c d : Nat} {S : List Bool}
def TkB (L : Nat) (B : Nat → Nat) (X Y : mM) (p : Nat) (b : Bool) (cr mr : Option (Bool × mM)) : Prop := (b = true ∧ ∃ X1 Y1 q, cr = some (true, X1) ∧ mr = some (true, Y1) ∧ p + 1 ≤ q ∧ q ≤ L ∧ tC X1 L B (sB L B q) ∧ tM Y1 L B q ∧ fC X X1 ∧ fM Y Y1 ∧ Y1 215 16 = nI (sB L B p)) ∨ (b = false ∧ ∃ Y1, cr = some (false, X) ∧ mr = some (false, Y1) ∧ tM Y1 L B (sB L B p) ∧ fM Y Y1 ∧ Y1 215 16 = nI (sB L B p))
theorem tk_sign (hT : txt L B) (hp : p ≤ L) (hX : tC X L B (sB L B p)) (hY : tM Y L B p) {k : Nat} (h0 : 0 < k) (hk : k < 128) : TkB L B X Y p (sgB L B (sB L B p) k) (f_X7_takesSign (nI k) X) (f_X12_sign (nI k) Y) := by
  obtain ⟨s1, s2⟩ := sB_le (B := B) hp
  obtain ⟨Y1, y1, y2, y3, y4⟩ := M_sign hT hY hp h0 hk
  obtain ⟨g1, g2⟩ := C_tsign hT hX s2 hk
  cases cs : sgB L B (sB L B p) k
  · rw [cs] at y1 y2
    exact Or.inr ⟨rfl, Y1, g2 cs, y1, y2, y4, y3⟩
  · obtain ⟨l1, X1, x1, x2, x3⟩ := g1 cs
    rw [cs] at y1 y2
    exact Or.inl ⟨rfl, X1, Y1, _, x1, y1, by omega, l1, x2, y2, x3, y4, y3⟩
theorem M_passes (hT : txt L B) (hp : p ≤ L) (hY : tM Y L B p) {o : Nat} (ho : mTxB o = true) (hw : okT (mTt o) = true) : ∃ Y', f_X12_passes o Y = some (isW L B (sB L B p) (mTt o), Y') ∧ tM Y' L B (bif isW L B (sB L B p) (mTt o) then sB L B p + (mTt o).length else sB L B p) ∧ Y' 215 16 = nI (sB L B p) ∧ fM Y Y' := by
  obtain ⟨Y1, y1, y2, y3, y4⟩ := M_letters hT hY hp
  have yw := M_isWord hT hp y2 y3 ho hw
  have h0 : f_X12_passes o Y = bif isW L B (sB L B p) (mTt o) then some (true, Y1) else some (false, mst Y1 215 14 (nI (sB L B p))) := by
    unfold f_X12_passes
    rw [gd_t ho, y1, b2_s, yw, b1_s, y3]
    rfl
  cases cw : isW L B (sB L B p) (mTt o)
  · rw [cw] at h0
    exact ⟨_, h0, y2.pt _, by rw [mst_nk (by decide)]; exact y3, y4.tr (fM.st (Or.inl rfl))⟩
  · rw [cw] at h0
    rw [wL_of cw] at y2
    exact ⟨_, h0, y2, y3, y4⟩
theorem tk_word (hT : txt L B) (hp : p ≤ L) (hX : tC X L B (sB L B p)) (hY : tM Y L B p) {o : Nat} (hw : mTxB o = true ∧ okT (mTt o) = true) : TkB L B X Y p (isW L B (sB L B p) (mTt o)) (f_X7_takes o X) (f_X12_passes o Y) := by
  obtain ⟨s1, s2⟩ := sB_le (B := B) hp
  obtain ⟨Y1, y1, y2, y3, y4⟩ := M_passes hT hp hY hw.1 hw.2
  obtain ⟨g1, g2⟩ := C_takes hT hX s2 hw.1 hw.2
  have := okT_l hw.2
  cases cs : isW L B (sB L B p) (mTt o)
  · rw [cs] at y1 y2
    exact Or.inr ⟨rfl, Y1, g2 cs, y1, y2, y4, y3⟩
  · obtain ⟨l1, X1, x1, x2, x3⟩ := g1 cs
    rw [cs] at y1 y2
    exact Or.inl ⟨rfl, X1, Y1, _, x1, y1, by omega, l1, x2, y2, x3, y4, y3⟩
/-- a word begins with a letter -/
theorem isW_l {a : Nat} {w : List Nat} (hw : okT w = true) (h : isW L B a w = true) : a < L ∧ 97 ≤ B a := by
  obtain ⟨h1, -⟩ := (isW_iff hw).mp h
  have h0 : 0 < w.length := (okT_l hw).1
  have h2 := h1 0 h0
  rw [Nat.add_zero] at h2
  exact ⟨h2.1, by rw [h2.2]; exact (okT_k hw 0 h0).1⟩
theorem nOk_l {a : Nat} (h : 97 ≤ B a) {lo hi : Int32} : nOk L B a lo hi = false := by
  have : nD L B a = 0 := by
    unfold nD
    rw [sk_un (Nat.le_refl a) (fun i h1 h2 => absurd h2 (by omega)) (fun _ => by unfold cD; rw [decide_eq_false (show ¬ B a ≤ 57 by omega), Bool.and_false])]
    exact Nat.sub_self a
  unfold nOk
  rw [this]
  rfl
theorem StK.mv (st : StK L B X Y p c d) (S : List Bool) {X1 Y1 : mM} {q : Nat} (f : fC X X1) (g : fM Y Y1) (hC : tC X1 L B (sB L B q)) (hM : tM Y1 L B q) (hq : q ≤ L) (i : Nat) (hi : p + i ≤ q) : OkK L B X Y p c S i X1 Y1 q c d S := by
  have := (st.ok S).mv f g hC hM hq i hi
  rw [Nat.zero_add] at this
  exact this
theorem tC.ss {X : mM} {p : Nat} (h : tC X L B (sB L B p)) : tC X L B (sB L B (sB L B p)) := by
  rw [show sB L B (sB L B p) = sB L B p from sk_sk p]
  exact h
theorem k_part (hT : txt L B) (st : StK L B X Y p c d) (hl : S.length ≤ 60) : RsK L B X Y p c d S (false :: S) (f_X1_readPart 23 X) (f_X12_readPart Y) := by
  obtain ⟨hp, hcp, hX, hY, g6, g20, g17⟩ := id st
  have hL := hT.1
  obtain ⟨s1, s2⟩ := sB_le (B := B) hp
  obtain ⟨Y1, y1, y2, y3, y4⟩ := M_letters hT hY hp
  have hit : ∀ (o x : Nat) (s v : Int32) (X1 : mM), x ≤ 6 → s = nI (1000 + x) → v = nI x → isW L B (sB L B p) (mTt o) = true → okT (mTt o) = true → sB L B p + (mTt o).length ≤ L → tC X1 L B (sB L B (sB L B p + (mTt o).length)) → fC X X1 → RsK L B X Y p c d S (false :: S) (f_X1_readPart_46 23 s X1) (f_X12_readPart_20 (mB false) v Y1) := fun o x s v X1 hx hs hv cw hw hle hX1 hf => by
    have := okT_l hw
    have y2' := y2
    rw [wL_of cw] at y2'
    obtain ⟨X2, Y2, e1, e2, h2⟩ := OkK.em (e := 0) hT (st.mv S hf y4 hX1 y2' hle 1 (by omega)) (s := s) (cd := nI x) (am := 0) (S2 := false :: S) (Or.inl ⟨x, by omega, hs, rfl⟩) (Or.inl ⟨x, hx, rfl, rfl⟩) hl
    refine Or.inl ⟨X2, Y2, _, _, ?_, ?_, h2⟩
    · unfold f_X1_readPart_46
      rw [e1, b2_s, hs, nm1 (by omega), cond_false]
    · unfold f_X12_readPart_20 f_X12_readPart_27 f_X12_readPart_32
      rw [show decide (mB false = 0) = true from rfl, cond_true, cond_true, hv, e2, b2_s, decide_eq_false (nI_pos (show x < 2 ^ 31 by omega)), cond_false]
  have hwl : ∀ o, isW L B (sB L B p) (mTt o) = true → okT (mTt o) = true → decide (wL L B p = sB L B p) = false := fun o cw hw => decide_eq_false (by have := okT_l hw; rw [wL_of cw]; omega)
  have k0 := okw (o := 400) (by decide) (by decide) (by decide)
  have k1 := okw (o := 404) (by decide) (by decide) (by decide)
  have k2 := okw (o := 419) (by decide) (by decide) (by decide)
  have k3 := okw (o := 420) (by decide) (by decide) (by decide)
  have k4 := okw (o := 401) (by decide) (by decide) (by decide)
  have k5 := okw (o := 421) (by decide) (by decide) (by decide)
  have k6 := okw (o := 408) (by decide) (by decide) (by decide)
  obtain ⟨wl1, wl2⟩ := wL_le (B := B) hp
  have hm : f_X12_readPart Y = bif decide (wL L B p = sB L B p) then b2 (f_X12_number (0 : Int32) (999 : Int32) Y1) (fun v6 M6 => f_X12_readPart_20 (mB true) v6 M6) else b1 (f_X12_wordOfPart Y1) (fun v7 => f_X12_readPart_20 (mB false) v7 Y1) := by
    unfold f_X12_readPart
    rw [y1, b2_s, y3, y2.2.2, dn, i_eq (by omega) (by omega)]
    cases decide (wL L B p = sB L B p) <;> rfl
  rw [hm]
  unfold f_X1_readPart f_X12_wordOfPart
  rw [gd_t (show mLwB 23 = true by decide), M_isWord hT hp y2 y3 k0.1 k0.2, b1_s]
  obtain ⟨w0, v0⟩ := C_takes hT hX s2 k0.1 k0.2
  cases c0 : isW L B (sB L B p) (mTt 400)
  · rw [v0 c0, b2_s, cond_false, cond_false, M_isWord hT hp y2 y3 k1.1 k1.2, b1_s]
    obtain ⟨w1, v1⟩ := C_takes hT hX s2 k1.1 k1.2
    cases c1 : isW L B (sB L B p) (mTt 404)
    · rw [v1 c1, b2_s, cond_false, cond_false, M_isWord hT hp y2 y3 k2.1 k2.2, b1_s]
      obtain ⟨w2, v2⟩ := C_takes hT hX s2 k2.1 k2.2
      cases c2 : isW L B (sB L B p) (mTt 419)
      · rw [v2 c2, b2_s, cond_false, cond_false, M_isWord hT hp y2 y3 k3.1 k3.2, b1_s]
        obtain ⟨w3, v3⟩ := C_takes hT hX s2 k3.1 k3.2
        cases c3 : isW L B (sB L B p) (mTt 420)
        · rw [v3 c3, b2_s, cond_false, cond_false, M_isWord hT hp y2 y3 k4.1 k4.2, b1_s]
          obtain ⟨w4, v4⟩ := C_takes hT hX s2 k4.1 k4.2
          cases c4 : isW L B (sB L B p) (mTt 401)
          · rw [v4 c4, b2_s, cond_false, cond_false, M_isWord hT hp y2 y3 k5.1 k5.2, b1_s]
            obtain ⟨w5, v5⟩ := C_takes hT hX s2 k5.1 k5.2
            cases c5 : isW L B (sB L B p) (mTt 421)
            · rw [v5 c5, b2_s, cond_false, cond_false, M_isWord hT hp y2 y3 k6.1 k6.2, b1_s]
              obtain ⟨w6, v6⟩ := C_takes hT hX s2 k6.1 k6.2
              cases c6 : isW L B (sB L B p) (mTt 408)
              · rw [v6 c6, b2_s, cond_false, cond_false, b1_s]
                by_cases ew : wL L B p = sB L B p
                · rw [decide_eq_true ew, cond_true]
                  rw [ew] at y2
                  have ss : sB L B (sB L B p) = sB L B p := sk_sk p
                  rcases nmB hT s2 hX.ss y2 (lo := 0) (hi := 999) with ⟨X2, Y2, v, q, n1, n2, n3, n4, n5, n6, n7, n8, n9, n10, n11, n12⟩ | ⟨X2, Y2, n1, n2, n3, n4, n5, n6⟩
                  · obtain ⟨X3, Y3, e1, e2, h2⟩ := OkK.em (e := 0) hT (st.mv S n11 (y4.tr n12) n5 n6 n4 1 (by omega)) (s := nI v) (cd := 10) (am := nI v) (S2 := false :: S) (Or.inr (Or.inl ⟨rfl, rfl, v, by omega, rfl⟩)) (Or.inr (Or.inr (Or.inl ⟨rfl, rfl⟩))) hl
                    refine Or.inl ⟨X3, Y3, _, _, ?_, ?_, h2⟩
                    · rw [n1, b2_s]
                      unfold f_X1_readPart_46
                      rw [e1, b2_s, nm1 (by omega), cond_false]
                    · rw [n2, b2_s]
                      unfold f_X12_readPart_20 f_X12_readPart_27 f_X12_readPart_32
                      rw [show decide (mB true = 0) = false from rfl, cond_false, cond_false, e2, b2_s, decide_eq_false (nI_pos (show v < 2 ^ 31 by omega)), cond_false]
                  · obtain ⟨Y3, q1, q2, q3⟩ := M_emitW (cd := 10) (am := -1) (Y := Y2) (c := c) (by rw [n6.2 20 (by decide) (by decide), y4.2 20 (by decide) (by decide)]; exact g20) (by omega)
                    obtain ⟨X3, r1, r2⟩ := (NoK.mk (L := L) (X := X) (Y := Y) (X1 := X2) (Y1 := Y3) (w := sB L B p) s2 (by rw [n3, ss]) (by rw [q3, n4, ss]) n5.w ((y4.tr n6).w.tr q2)).add (s := -1)
                    refine Or.inr ⟨X3, Y3, ?_, ?_, r2⟩
                    · rw [n1, b2_s]
                      unfold f_X1_readPart_46
                      rw [r1, b2_s]
                      rfl
                    · rw [n2, b2_s]
                      unfold f_X12_readPart_20 f_X12_readPart_27 f_X12_readPart_32
                      rw [show decide (mB true = 0) = false from rfl, cond_false, cond_false, q1, b2_s]
                      rfl
                · rw [decide_eq_false ew, cond_false]
                  have hB : 97 ≤ B (sB L B p) := by
                    have := (sk_in (L := L) (c := cL B) (Nat.le_refl (sB L B p)) (show sB L B p < wL L B p by omega)).2
                    unfold cL at this
                    rw [Bool.and_eq_true] at this
                    exact of_decide_eq_true this.1
                  obtain ⟨X2, n1, n3, n5⟩ := (C_number hT hX s2 (lo := 0) (hi := 999)).2 (nOk_l hB)
                  obtain ⟨Y3, q1, q2, q3⟩ := M_emitW (cd := -1) (am := 0) (Y := Y1) (c := c) (by rw [y4.2 20 (by decide) (by decide)]; exact g20) (by omega)
                  obtain ⟨X3, r1, r2⟩ := (NoK.mk (L := L) (X := X) (Y := Y) (X1 := X2) (Y1 := Y3) (w := sB L B p) s2 n3 (by rw [q3, y3]) n5.w (y4.w.tr q2)).add (s := -1)
                  refine Or.inr ⟨X3, Y3, ?_, ?_, r2⟩
                  · rw [n1, b2_s]
                    unfold f_X1_readPart_46
                    rw [r1, b2_s]
                    rfl
                  · unfold f_X12_readPart_20 f_X12_readPart_27 f_X12_readPart_32
                    rw [show decide (mB false = 0) = true from rfl, cond_true, cond_true, q1, b2_s]
                    rfl
              · obtain ⟨l1, X', x1, x2, x3⟩ := w6 c6
                rw [x1, b2_s, cond_true, cond_true, b1_s, hwl _ c6 k6.2, cond_false]
                exact hit 408 6 _ _ X' (by decide) rfl rfl c6 k6.2 l1 x2 x3
            · obtain ⟨l1, X', x1, x2, x3⟩ := w5 c5
              rw [x1, b2_s, cond_true, cond_true, b1_s, hwl _ c5 k5.2, cond_false]
              exact hit 421 5 _ _ X' (by decide) rfl rfl c5 k5.2 l1 x2 x3
          · obtain ⟨l1, X', x1, x2, x3⟩ := w4 c4
            rw [x1, b2_s, cond_true, cond_true, b1_s, hwl _ c4 k4.2, cond_false]
            exact hit 401 4 _ _ X' (by decide) rfl rfl c4 k4.2 l1 x2 x3
        · obtain ⟨l1, X', x1, x2, x3⟩ := w3 c3
          rw [x1, b2_s, cond_true, cond_true, b1_s, hwl _ c3 k3.2, cond_false]
          exact hit 420 3 _ _ X' (by decide) rfl rfl c3 k3.2 l1 x2 x3
      · obtain ⟨l1, X', x1, x2, x3⟩ := w2 c2
        rw [x1, b2_s, cond_true, cond_true, b1_s, hwl _ c2 k2.2, cond_false]
        exact hit 419 2 _ _ X' (by decide) rfl rfl c2 k2.2 l1 x2 x3
    · obtain ⟨l1, X', x1, x2, x3⟩ := w1 c1
      rw [x1, b2_s, cond_true, cond_true, b1_s, hwl _ c1 k1.2, cond_false]
      exact hit 404 1 _ _ X' (by decide) rfl rfl c1 k1.2 l1 x2 x3
  · obtain ⟨l1, X', x1, x2, x3⟩ := w0 c0
    rw [x1, b2_s, cond_true, cond_true, b1_s, hwl _ c0 k0.2, cond_false]
    exact hit 400 0 _ _ X' (by decide) rfl rfl c0 k0.2 l1 x2 x3
/-- one after another -/
def lpC (tk rc : mM → Option (Bool × mM)) (s : Int32) (l : Int32) (M0 : mM) : Option ((Bool × mM) ⊕ (Int32 × mM)) := bif decide ((400 : Int32) ≤ l) then (some (.inl (true, M0))) else (b2 (tk M0) (fun v2 M2 => bif v2 then (b2 (rc M2) (fun v4 M4 => bif v4 then (b2 (f_X0_addStep 23 s M4) (fun v6 M6 => some (.inr ((l + (1 : Int32)), M6)))) else (some (.inl (false, M4))))) else (some (.inl (true, M2)))))
def lpM (tk rc : mM → Option (Bool × mM)) (cd : Int32) (M0 : mM) : Option ((Bool × mM) ⊕ mM) := b2 (tk M0) (fun v1 M1 => bif v1 then (b2 (rc M1) (fun v3 M3 => bif v3 then (b2 (f_X12_emits cd (0 : Int32) M3) (fun v5 M5 => some (.inr M5))) else (some (.inl (false, M3))))) else (some (.inl (true, M1))))
theorem k_loop (hT : txt L B) {tkC tkM rcC rcM : mM → Option (Bool × mM)} {s cd : Int32} {S0 S1 : List Bool} (hk : ∀ X Y p, p ≤ L → tC X L B (sB L B p) → tM Y L B p → ∃ b, TkB L B X Y p b (tkC X) (tkM Y)) (hr : ∀ X Y p c, StK L B X Y p c d → RsK L B X Y p c d S0 S1 (rcC X) (rcM Y)) (hc : ∀ a, CR s cd a) (ht : tyS cd S1 S0) (hl : S1.length ≤ 60) :
    ∀ j fc fm (X Y : mM) p c l, L - p ≤ j → j + 1 ≤ fc → j + 1 ≤ fm → l < p → StK L B X Y p c d → RsK L B X Y p c d S0 S0 (wh fc (fun s' : Int32 × mM => lpC tkC rcC s s'.1 s'.2) (nI l, X)) (wh fm (fun s' : mM => lpM tkM rcM cd s') Y) := by
  intro j
  induction j using Nat.strongRecOn with
  | ind j ih =>
    intro fc fm X Y p c l hj hfc hfm hlp st
    have hL := hT.1
    obtain ⟨hp, hcp, hX, hY, g6, g20, g17⟩ := id st
    obtain ⟨fc, rfl⟩ : ∃ y, fc = y + 1 := ⟨fc - 1, by omega⟩
    obtain ⟨fm, rfl⟩ : ∃ y, fm = y + 1 := ⟨fm - 1, by omega⟩
    obtain ⟨s1, s2⟩ := sB_le (B := B) hp
    have h400 : decide ((400 : Int32) ≤ nI l) = false := i_lit (a := 400) (by decide) (by omega)
    obtain ⟨b, hb⟩ := hk X Y p hp hX hY
    rcases hb with ⟨-, X1, Y1, q, t1, t2, t3, t4, t5, t6, t7, t8, -⟩ | ⟨-, Y1, t1, t2, t3, t4, -⟩
    · have ok1 := st.mv S0 t7 t8 t5 t6 t4 1 t3
      rcases hr X1 Y1 q c ok1.1 with ⟨X2, Y2, p2, c2, r1, r2, r3⟩ | ⟨X2, Y2, r1, r2, r3⟩
      · obtain ⟨X3, Y3, e1, e2, ok3⟩ := OkK.em (e := 0) hT ((ok1.tr r3).e0 1 (Nat.le_refl _)) (s := s) (cd := cd) (am := 0) (hc 0) ht hl
        have hp2 : q ≤ p2 := by have := r3.2.2.1; have := r3.2.2.2.1; omega
        have hp3 : p2 ≤ L := ok3.1.1
        rw [wh_sS (b := fun s' : Int32 × mM => lpC tkC rcC s s'.1 s'.2) (s := (nI l, X)) (s' := (nI (l + 1), X3)), wh_sS (b := fun s' : mM => lpM tkM rcM cd s') (s := Y) (s' := Y3)]
        · exact RsK.at_ ok3 (ih (L - p2) (by omega) fc fm X3 Y3 p2 _ (l + 1) (Nat.le_refl _) (by omega) (by omega) (by omega) ok3.1)
        · show lpM tkM rcM cd Y = _
          unfold lpM
          rw [t2, b2_s, cond_true, r2, b2_s, cond_true, e2, b2_s]
        · show lpC tkC rcC s (nI l) X = _
          unfold lpC
          rw [h400, cond_false, t1, b2_s, cond_true, r1, b2_s, cond_true, e1, b2_s, i_1]
      · refine Or.inr ⟨X2, Y2, wh_eE (r := some (false, X2)) ?_, wh_eE (r := some (false, Y2)) ?_, NoK.at_ ok1 r3⟩
        · show lpC tkC rcC s (nI l) X = _
          unfold lpC
          rw [h400, cond_false, t1, b2_s, cond_true, r1, b2_s, cond_false]
          rfl
        · show lpM tkM rcM cd Y = _
          unfold lpM
          rw [t2, b2_s, cond_true, r2, b2_s, cond_false]
          rfl
    · refine Or.inl ⟨X, Y1, sB L B p, c, wh_eE (r := some (true, X)) ?_, wh_eE (r := some (true, Y1)) ?_, st.mv S0 fC.rf t4 hX.ss t3 s2 0 s1⟩
      · show lpC tkC rcC s (nI l) X = _
        unfold lpC
        rw [h400, cond_false, t1, b2_s, cond_false]
        rfl
      · show lpM tkM rcM cd Y = _
        unfold lpM
        rw [t2, b2_s, cond_false]
        rfl
theorem k_seq (hT : txt L B) {tkC tkM rcC rcM : mM → Option (Bool × mM)} {s cd : Int32} {S S0 S1 : List Bool} (hk : ∀ X Y p, p ≤ L → tC X L B (sB L B p) → tM Y L B p → ∃ b, TkB L B X Y p b (tkC X) (tkM Y)) (hf : ∀ X Y p c, StK L B X Y p c d → RsK L B X Y p c d S S0 (rcC X) (rcM Y)) (hr : ∀ X Y p c, StK L B X Y p c d → RsK L B X Y p c d S0 S1 (rcC X) (rcM Y)) (hc : ∀ a, CR s cd a) (ht : tyS cd S1 S0) (hl : S1.length ≤ 60) (st : StK L B X Y p c d) :
    RsK L B X Y p c d S S0 (b2 (rcC X) (fun v7 M7 => bif v7 then (wh 100000 (fun s' : Int32 × mM => lpC tkC rcC s s'.1 s'.2) (0, M7)) else (some (false, M7)))) (b2 (rcM Y) (fun v6 M6 => bif v6 then (wh 100000 (fun s' : mM => lpM tkM rcM cd s') M6) else (some (false, M6)))) := by
  have hL := hT.1
  rcases hf X Y p c st with ⟨X2, Y2, p2, c2, r1, r2, r3⟩ | ⟨X2, Y2, r1, r2, r3⟩
  · rw [r1, b2_s, cond_true, r2, b2_s, cond_true]
    exact RsK.at_ r3 (k_loop hT hk hr hc ht hl 400 100000 100000 X2 Y2 p2 c2 0 (by omega) (by decide) (by decide) (by have := r3.1.2.1; omega) r3.1)
  · rw [r1, b2_s, cond_false, r2, b2_s, cond_false]
    exact Or.inr ⟨X2, Y2, rfl, rfl, r3⟩
theorem k_sum (hT : txt L B) (st : StK L B X Y p c d) (hl : S.length ≤ 58) : RsK L B X Y p c d S (false :: S) (f_X1_readSum 23 X) (f_X12_readSum Y) := by
  unfold f_X1_readSum f_X12_readSum
  rw [gd_t (show mLwB 23 = true by decide)]
  exact k_seq hT (tkC := fun M => f_X7_takesSign (43 : Int32) M) (tkM := fun M => f_X12_sign (43 : Int32) M) (rcC := fun M => f_X1_readPart 23 M) (rcM := fun M => f_X12_readPart M) (s := 1013) (cd := 11) (S1 := false :: false :: S) (fun X Y p hp hX hY => ⟨_, tk_sign hT hp hX hY (k := 43) (by decide) (by decide)⟩) (fun X Y p c st => k_part hT st (by omega)) (fun X Y p c st => k_part hT st (by rw [List.length_cons]; omega)) (fun a => Or.inr (Or.inr (Or.inr (Or.inr (Or.inr (Or.inl ⟨rfl, rfl⟩)))))) (Or.inr (Or.inr (Or.inr (Or.inr (Or.inr (Or.inl ⟨rfl, S, rfl, rfl⟩)))))) (by rw [List.length_cons, List.length_cons]; omega) st
end
