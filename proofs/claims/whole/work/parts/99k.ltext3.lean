/-! texts of a law: conditions -/
section
variable {L : Nat} {B : Nat → Nat} {X Y : mM} {p c d : Nat} {S : List Bool}
theorem tk_must (hT : txt L B) (hp : p ≤ L) (hX : tC X L B (sB L B p)) (hY : tM Y L B p) {k : Nat} (h0 : 0 < k) (hk : k < 128) : (∃ X1 Y1 q, f_X7_mustSign (nI k) X = some (true, X1) ∧ f_X12_sign (nI k) Y = some (true, Y1) ∧ p + 1 ≤ q ∧ q ≤ L ∧ tC X1 L B (sB L B q) ∧ tM Y1 L B q ∧ fC X X1 ∧ fM Y Y1) ∨ (∃ X1 Y1, f_X7_mustSign (nI k) X = some (false, X1) ∧ f_X12_sign (nI k) Y = some (false, Y1) ∧ X1 1 3 = nI (sB L B p) ∧ Y1 215 16 = nI (sB L B p) ∧ fC X X1 ∧ fM Y Y1) := by
  obtain ⟨s1, s2⟩ := sB_le (B := B) hp
  obtain ⟨Y1, y1, y2, y3, y4⟩ := M_sign hT hY hp h0 hk
  obtain ⟨g1, g2⟩ := C_mustSign hT hX s2 hk
  cases cs : sgB L B (sB L B p) k
  · rw [cs] at y1 y2
    exact Or.inr ⟨_, Y1, g2 cs, y1, mst_oo _ _ _ _, y3, fC.st (by decide), y4⟩
  · obtain ⟨l1, X1, x1, x2, x3⟩ := g1 cs
    rw [cs] at y1 y2
    exact Or.inl ⟨X1, Y1, _, x1, y1, by omega, l1, x2, y2, x3, y4⟩
/-- what two sums are held against each other -/
theorem k_cmp (hT : txt L B) {rcC : Nat → Nat → Int32 → mM → Option (Bool × mM)} {rcM : Nat → mM → Option (Bool × mM)} {X1 Y1 : mM} {p1 c1 e : Nat} {b : Bool} (h : OkK L B X Y p c S (e + 1) X1 Y1 p1 c1 d (false :: S)) (hl : S.length ≤ 57) : RsK L B X Y p c d S (true :: S) (f_X1_readAtom_98 rcC 23 b X1) (f_X12_readAtom_84 rcM b Y1) := by
  have hC : f_X1_readAtom_98 rcC 23 b X1 = b2 (f_X1_readSum 23 X1) (fun v M => b2 (f_X0_addStep 23 (bif b then 1014 else 1015) M) (fun _ M1 => some (v, M1))) := by
    unfold f_X1_readAtom_98 f_X1_readAtom_108
    cases b <;> rfl
  have hM : f_X12_readAtom_84 rcM b Y1 = b2 (f_X12_readSum Y1) (fun v M => bif v then b2 (f_X12_emits (bif b then 12 else 13) 0 M) (fun _ M1 => some (true, M1)) else some (false, M)) := by
    unfold f_X12_readAtom_84 f_X12_readAtom_95
    cases b <;> rfl
  rw [hC, hM]
  rcases k_sum hT h.1 (S := false :: S) (by rw [List.length_cons]; omega) with ⟨X2, Y2, p2, c2, r1, r2, r3⟩ | ⟨X2, Y2, r1, r2, r3⟩
  · obtain ⟨X3, Y3, e1, e2, ok3⟩ := OkK.em (e := 0) hT ((h.tr r3).e0 1 (by omega)) (s := bif b then 1014 else 1015) (cd := bif b then 12 else 13) (am := 0) (S2 := true :: S) (by cases b; exact Or.inr (Or.inr (Or.inr (Or.inr (Or.inr (Or.inr (Or.inr ⟨rfl, rfl⟩)))))); exact Or.inr (Or.inr (Or.inr (Or.inr (Or.inr (Or.inr (Or.inl ⟨rfl, rfl⟩))))))) (Or.inr (Or.inr (Or.inr (Or.inr (Or.inr (Or.inr ⟨by cases b; exact Or.inr rfl; exact Or.inl rfl, S, rfl, rfl⟩)))))) (by rw [List.length_cons, List.length_cons]; omega)
    rw [r1, b2_s, e1, b2_s, r2, b2_s, cond_true, e2, b2_s]
    exact Or.inl ⟨X3, Y3, _, _, rfl, rfl, ok3⟩
  · obtain ⟨X3, e1, e2⟩ := (NoK.at_ h r3).add (s := bif b then 1014 else 1015)
    rw [r1, b2_s, e1, b2_s, r2, b2_s, cond_false]
    exact Or.inr ⟨X3, Y2, rfl, rfl, e2⟩
theorem k_atom (hT : txt L B) {rcC : Nat → Nat → Int32 → mM → Option (Bool × mM)} {rcM : Nat → mM → Option (Bool × mM)} (st : StK L B X Y p c d) (hd : d ≤ 6) (hl : S.length + 2 * (6 - d) + 4 ≤ 60)
    (h0 : d < 6 → ∀ X Y p c S, S.length + 2 * (6 - (d + 1)) + 6 ≤ 60 → StK L B X Y p c (d + 1) → RsK L B X Y p c (d + 1) S (true :: S) (rcC 0 23 (nI (d + 1)) X) (rcM 0 Y))
    (h2 : d < 6 → ∀ X Y p c S, S.length + 2 * (6 - (d + 1)) + 4 ≤ 60 → StK L B X Y p c (d + 1) → RsK L B X Y p c (d + 1) S (true :: S) (rcC 2 23 (nI (d + 1)) X) (rcM 2 Y)) : RsK L B X Y p c d S (true :: S) (f_X1_readAtom rcC 23 (nI d) X) (f_X12_readAtom rcM Y) := by
  have hL := hT.1
  obtain ⟨hp, hcp, hX, hY, g6, g20, g17⟩ := id st
  obtain ⟨s1, s2⟩ := sB_le (B := B) hp
  have ss : sB L B (sB L B p) = sB L B p := sk_sk p
  have k16 := okw (o := 416) (by decide) (by decide) (by decide)
  have k06 := okw (o := 406) (by decide) (by decide) (by decide)
  have k17 := okw (o := 417) (by decide) (by decide) (by decide)
  have k18 := okw (o := 418) (by decide) (by decide) (by decide)
  have d6 : decide (nI d < (6 : Int32)) = decide (d < 6) := i_lt (b := 6) (by omega) (by decide)
  have d6' : decide (¬ nI d = (6 : Int32)) = decide (d < 6) := by
    rw [dn, show decide (nI d = (6 : Int32)) = decide (d = 6) from i_eq (b := 6) (by omega) (by decide)]
    by_cases e : d = 6
    · rw [decide_eq_true e, decide_eq_false (show ¬ d < 6 by omega)]; rfl
    · rw [decide_eq_false e, decide_eq_true (show d < 6 by omega)]; rfl
  unfold f_X1_readAtom f_X12_readAtom
  rw [gd_t (show mLwB 23 = true by decide), hX.2.2.1]
  have hsg := tk_sign hT hp hX hY (k := 40) (by decide) (by decide)
  rcases hsg with ⟨cs, X1, Y1, q, t1, t2, t3, t4, t5, t6, t7, t8, t9⟩ | ⟨cs, Y1, t1, t2, t3, t4, t9⟩
  · -- a bracket
    have cw : isW L B (sB L B p) (mTt 416) = false := by
      cases cw : isW L B (sB L B p) (mTt 416)
      · rfl
      · have := (isW_l k16.2 cw).2
        unfold sgB at cs
        rw [Bool.and_eq_true] at cs
        have := of_decide_eq_true cs.2
        omega
    have ok1 := st.mv S t7 t8 t5 t6 t4 1 t3
    have e17 : Y1 215 17 = nI d := ok1.1.2.2.2.2.2.2
    rw [(C_takes hT hX s2 k16.1 k16.2).2 cw, b2_s, cond_false, show f_X7_takesSign 40 X = _ from t1, b2_s, cond_true, show f_X12_sign 40 Y = _ from t2, b2_s, cond_true, e17, d6, d6', i_1]
    cases e6 : decide (d < 6)
    · rw [cond_false, cond_false, C_wrong t5.2.2.2, b2_s]
      exact Or.inr ⟨_, Y1, rfl, rfl, NoK.mk s2 (mst_oo _ _ _ _) t9 (t7.w.tr (fC.w (fC.st (by decide)))) t8.w⟩
    · have hd6 := of_decide_eq_true e6
      rw [cond_true, cond_true, wr_e]
      have okd := ok1.dp (d + 1)
      rcases h0 hd6 X1 _ q c S (by omega) okd.1 with ⟨X2, Y2, p2, c2, r1, r2, r3⟩ | ⟨X2, Y2, r1, r2, r3⟩
      · have ok2 := (okd.tr r3).dp d
        have st2 := ok2.1
        obtain ⟨u1, u2⟩ := sB_le (B := B) st2.1
        rw [r1, b2_s, cond_true, r2, b2_s, cond_true, show Y2 215 17 = nI (d + 1) from r3.1.2.2.2.2.2.2, nI_pred, wr_e]
        rcases tk_must hT st2.1 st2.2.2.1 st2.2.2.2.1 (k := 41) (by decide) (by decide) with ⟨X3, Y3, q3, v1, v2, v3, v4, v5, v6, v7, v8⟩ | ⟨X3, Y3, v1, v2, v3, v4, v5, v6⟩
        · rw [show f_X7_mustSign 41 X2 = _ from v1, b2_s, cond_true, show f_X12_sign 41 (mst Y2 215 17 (nI d)) = _ from v2, b2_s]
          exact Or.inl ⟨X3, Y3, q3, c2, rfl, rfl, (ok2.mv v7 v8 v5 v6 v4 1 v3).e0 0 (Nat.zero_le _)⟩
        · rw [show f_X7_mustSign 41 X2 = _ from v1, b2_s, cond_false, show f_X12_sign 41 (mst Y2 215 17 (nI d)) = _ from v2, b2_s]
          exact Or.inr ⟨X3, Y3, rfl, rfl, NoK.at_ ok2 (NoK.mk u2 v3 v4 v5.w v6.w)⟩
      · rw [r1, b2_s, cond_false, r2, b2_s, cond_false]
        exact Or.inr ⟨X2, Y2, rfl, rfl, NoK.at_ okd r3⟩
  · rw [show f_X12_sign 40 Y = _ from t2, b2_s, cond_false]
    have hsC : f_X7_takesSign 40 X = some (false, X) := t1
    rcases tk_word hT s2 hX.ss t3 k16 with ⟨-, X2, Y2, q, u1, u2, u3, u4, u5, u6, u7, u8, u9⟩ | ⟨cw, Y2, u1, u2, u3, u4, u9⟩
    · -- not
      have ok1 := st.mv S u7 (t4.tr u8) u5 u6 u4 1 (by omega)
      have e17 : Y2 215 17 = nI d := ok1.1.2.2.2.2.2.2
      rw [u1, b2_s, cond_true, u2, b2_s, cond_true, e17, d6, d6', i_1]
      cases e6 : decide (d < 6)
      · rw [cond_false, cond_false, C_wrong u5.2.2.2, b2_s]
        rw [ss] at u9
        exact Or.inr ⟨_, Y2, rfl, rfl, NoK.mk s2 (mst_oo _ _ _ _) u9 (u7.w.tr (fC.w (fC.st (by decide)))) (t4.w.tr u8.w)⟩
      · have hd6 := of_decide_eq_true e6
        rw [cond_true, cond_true, wr_e]
        have okd := ok1.dp (d + 1)
        rcases h2 hd6 X2 _ q c S (by omega) okd.1 with ⟨X3, Y3, p2, c2, r1, r2, r3⟩ | ⟨X3, Y3, r1, r2, r3⟩
        · have ok2 := (okd.tr r3).dp d
          obtain ⟨X4, Y4, e1, e2, ok4⟩ := OkK.em (e := 0) hT (ok2.e0 1 (by omega)) (s := 1010) (cd := 14) (am := 0) (S2 := true :: S) (Or.inr (Or.inr (Or.inl ⟨rfl, rfl⟩))) (Or.inr (Or.inr (Or.inr (Or.inl ⟨rfl, S, rfl, rfl⟩)))) (by rw [List.length_cons]; omega)
          rw [r1, b2_s, e1, b2_s, r2, b2_s, cond_true, show Y3 215 17 = nI (d + 1) from r3.1.2.2.2.2.2.2, nI_pred, wr_e, e2, b2_s]
          exact Or.inl ⟨X4, Y4, _, _, rfl, rfl, ok4⟩
        · obtain ⟨X4, e1, e2⟩ := (NoK.at_ okd r3).add (s := 1010)
          rw [r1, b2_s, e1, b2_s, r2, b2_s, cond_false]
          exact Or.inr ⟨X4, Y3, rfl, rfl, e2⟩
    · rw [u1, b2_s, cond_false, hsC, b2_s, cond_false, u2, b2_s, cond_false]
      rw [ss] at u3
      obtain ⟨Y3, y1, y2, y3, y4⟩ := M_letters hT u3 s2
      have ew : wL L B (sB L B p) = wL L B p := by unfold wL; rw [ss]
      have iw : ∀ o, mTxB o = true ∧ okT (mTt o) = true → f_X12_isWord o Y3 = some (isW L B (sB L B p) (mTt o)) := fun o ho => by
        have := M_isWord hT s2 y2 y3 ho.1 ho.2
        rw [ss] at this
        exact this
      rw [ss] at y3
      rw [ew] at y2
      have f3 : fM Y Y3 := (t4.tr u4).tr y4
      have hit : ∀ (o x : Nat) (s v : Int32) (X1 : mM), 7 ≤ x → x ≤ 9 → s = nI (1000 + x) → v = nI x → isW L B (sB L B p) (mTt o) = true → okT (mTt o) = true → sB L B p + (mTt o).length ≤ L → tC X1 L B (sB L B (sB L B p + (mTt o).length)) → fC X X1 → ∃ X' Y' p' c', f_X1_readAtom_71 rcC 23 s X1 = some (true, X') ∧ f_X12_readTag_21 v Y3 = some (true, Y') ∧ OkK L B X Y p c S 0 X' Y' p' c' d (true :: S) := fun o x s v X1 hx7 hx hs hv cw hw hle hX1 hf => by
        have := okT_l hw
        have y2' := y2
        rw [wL_of cw] at y2'
        obtain ⟨X2, Y4, e1, e2, h2⟩ := OkK.em (e := 0) hT (st.mv S hf f3 hX1 y2' hle 1 (by omega)) (s := s) (cd := nI x) (am := 0) (S2 := true :: S) (Or.inl ⟨x, hx, hs, rfl⟩) (Or.inr (Or.inl ⟨x, hx7, hx, rfl, rfl⟩)) (by omega)
        refine ⟨X2, Y4, _, _, ?_, ?_, h2⟩
        · unfold f_X1_readAtom_71
          rw [show decide (s = (-1 : Int32)) = false by rw [hs]; exact nm1 (by omega), cond_false, e1, b2_s]
        · unfold f_X12_readTag_21 f_X12_readTag_33
          rw [hv, decide_eq_false (nI_pos (show x < 2 ^ 31 by omega)), cond_false, e2, b2_s, cond_false]
      obtain ⟨w1, v1⟩ := C_takes hT hX s2 k06.1 k06.2
      obtain ⟨w2, v2⟩ := C_takes hT hX s2 k17.1 k17.2
      obtain ⟨w3, v3⟩ := C_takes hT hX s2 k18.1 k18.2
      cases c1 : isW L B (sB L B p) (mTt 406)
      · rw [v1 c1, b2_s, cond_false]
        cases c2 : isW L B (sB L B p) (mTt 417)
        · rw [v2 c2, b2_s, cond_false]
          cases c3 : isW L B (sB L B p) (mTt 418)
          · rw [v3 c3, b2_s, cond_false]
            have hM : f_X12_readTag Y2 = some (false, mst Y3 215 14 (nI (sB L B p))) := by
              unfold f_X12_readTag
              rw [y1, b2_s, iw 406 k06, b1_s, c1, cond_false, iw 417 k17, b1_s, c2, cond_false, iw 418 k18, b1_s, c3, cond_false]
              unfold f_X12_readTag_21 f_X12_readTag_33
              rw [show decide ((-1 : Int32) < 0) = true from rfl, cond_true, wr_e, cond_true, y3]
            rw [hM, b2_s, cond_false]
            have ok4 := st.mv S (X1 := X) (fC.rf) (f3.tr (fM.st (k := 14) (v := nI (sB L B p)) (Or.inl rfl))) hX.ss (y2.pt (sB L B p)) s2 0 s1
            generalize mst Y3 215 14 (nI (sB L B p)) = Y4 at ok4 ⊢
            unfold f_X1_readAtom_71
            rw [show decide ((-1 : Int32) = (-1 : Int32)) = true from rfl, cond_true]
            rcases k_sum hT ok4.1 (S := S) (by omega) with ⟨X5, Y5, p2, c2, r1, r2, r3⟩ | ⟨X5, Y5, r1, r2, r3⟩
            · have ok5 := ok4.tr r3
              have st5 := ok5.1
              obtain ⟨z1, z2⟩ := sB_le (B := B) st5.1
              rw [r1, b2_s, cond_true, r2, b2_s, cond_true]
              rcases tk_sign hT st5.1 st5.2.2.1 st5.2.2.2.1 (k := 60) (by decide) (by decide) with ⟨-, X6, Y6, q6, a1, a2, a3, a4, a5, a6, a7, a8, -⟩ | ⟨-, Y6, a1, a2, a3, a4, -⟩
              · rw [show f_X7_takesSign 60 X5 = _ from a1, b2_s, cond_true, show f_X12_sign 60 Y5 = _ from a2, b2_s, cond_true]
                exact k_cmp (e := 0) hT (ok5.mv a7 a8 a5 a6 a4 1 a3) (by omega)
              · rw [show f_X7_takesSign 60 X5 = _ from a1, b2_s, cond_false, show f_X12_sign 60 Y5 = _ from a2, b2_s, cond_false]
                have ok6 := ok5.mv fC.rf a4 st5.2.2.1.ss a3 z2 0 z1
                rcases tk_must hT z2 st5.2.2.1.ss a3 (k := 62) (by decide) (by decide) with ⟨X7, Y7, q7, b1', b2', b3, b4, b5, b6, b7, b8⟩ | ⟨X7, Y7, b1', b2', b3, b4, b5, b6⟩
                · rw [show f_X7_mustSign 62 X5 = _ from b1', b2_s, cond_true, show f_X12_sign 62 Y6 = _ from b2', b2_s, cond_true]
                  exact k_cmp (e := 0) hT ((ok6.mv b7 b8 b5 b6 b4 1 b3).e0 1 (by omega)) (by omega)
                · rw [show f_X7_mustSign 62 X5 = _ from b1', b2_s, cond_false, show f_X12_sign 62 Y6 = _ from b2', b2_s, cond_false]
                  rw [show sB L B (sB L B p2) = sB L B p2 from sk_sk p2] at b3 b4
                  exact Or.inr ⟨X7, Y7, rfl, rfl, NoK.at_ ok6 (NoK.mk z2 b3 b4 b5.w b6.w)⟩
            · rw [r1, b2_s, cond_false, r2, b2_s, cond_false]
              exact Or.inr ⟨X5, Y5, rfl, rfl, NoK.at_ ok4 r3⟩
          · obtain ⟨l1, X', x1, x2, x3⟩ := w3 c3
            obtain ⟨X6, Y6, p6, c6, o1, o2, o3⟩ := hit 418 9 1009 9 X' (by decide) (by decide) rfl rfl c3 k18.2 l1 x2 x3
            have hM : f_X12_readTag Y2 = some (true, Y6) := by
              unfold f_X12_readTag
              rw [y1, b2_s, iw 406 k06, b1_s, c1, cond_false, iw 417 k17, b1_s, c2, cond_false, iw 418 k18, b1_s, c3, cond_true, o2]
            rw [x1, b2_s, cond_true, o1, hM, b2_s, cond_true]
            exact Or.inl ⟨X6, Y6, p6, c6, rfl, rfl, o3⟩
        · obtain ⟨l1, X', x1, x2, x3⟩ := w2 c2
          obtain ⟨X6, Y6, p6, c6, o1, o2, o3⟩ := hit 417 8 1008 8 X' (by decide) (by decide) rfl rfl c2 k17.2 l1 x2 x3
          have hM : f_X12_readTag Y2 = some (true, Y6) := by
            unfold f_X12_readTag
            rw [y1, b2_s, iw 406 k06, b1_s, c1, cond_false, iw 417 k17, b1_s, c2, cond_true, o2]
          rw [x1, b2_s, cond_true, o1, hM, b2_s, cond_true]
          exact Or.inl ⟨X6, Y6, p6, c6, rfl, rfl, o3⟩
      · obtain ⟨l1, X', x1, x2, x3⟩ := w1 c1
        obtain ⟨X6, Y6, p6, c6, o1, o2, o3⟩ := hit 406 7 1007 7 X' (by decide) (by decide) rfl rfl c1 k06.2 l1 x2 x3
        have hM : f_X12_readTag Y2 = some (true, Y6) := by
          unfold f_X12_readTag
          rw [y1, b2_s, iw 406 k06, b1_s, c1, cond_true, o2]
        rw [x1, b2_s, cond_true, o1, hM, b2_s, cond_true]
        exact Or.inl ⟨X6, Y6, p6, c6, rfl, rfl, o3⟩
/-- a condition, to its depths -/
theorem k_cond (hT : txt L B) : ∀ f t d (X Y : mM) p c S, t ≤ 2 → d ≤ 6 → 3 * (6 - d) + (3 - t) ≤ f → S.length + 2 * (6 - d) + (2 - t) + 4 ≤ 60 → StK L B X Y p c d → RsK L B X Y p c d S (true :: S) (fp_C f t 23 (nI d) X) (fp_M f t Y) := by
  intro f
  induction f with
  | zero => intro t d X Y p c S ht hd hf; omega
  | succ f ih =>
    intro t d X Y p c S ht hd hf hl st
    have k22 := okw (o := 422) (by decide) (by decide) (by decide)
    have k23 := okw (o := 423) (by decide) (by decide) (by decide)
    have hor : ∀ (a : Int32) (s cd : Int32), (s = 1011 ∧ cd = 15) ∨ (s = 1012 ∧ cd = 16) → CR s cd a := fun a s cd h => by
      rcases h with h | h
      · exact Or.inr (Or.inr (Or.inr (Or.inl h)))
      · exact Or.inr (Or.inr (Or.inr (Or.inr (Or.inl h))))
    match t, ht with
    | 0, _ =>
      show RsK L B X Y p c d S (true :: S) (f_X1_readAny (fp_C f) 23 (nI d) X) (f_X12_readCond (fp_M f) Y)
      unfold f_X1_readAny f_X12_readCond
      rw [gd_t (show mLwB 23 = true by decide)]
      exact k_seq hT (tkC := fun M => f_X7_takes 423 M) (tkM := fun M => f_X12_passes 423 M) (rcC := fun M => fp_C f 1 23 (nI d) M) (rcM := fun M => fp_M f 1 M) (s := 1012) (cd := 16) (S1 := true :: true :: S) (fun X Y p hp hX hY => ⟨_, tk_word hT hp hX hY k23⟩) (fun X Y p c st => ih 1 d X Y p c S (by decide) hd (by omega) (by omega) st) (fun X Y p c st => ih 1 d X Y p c (true :: S) (by decide) hd (by omega) (by rw [List.length_cons]; omega) st) (fun a => hor a _ _ (Or.inr ⟨rfl, rfl⟩)) (Or.inr (Or.inr (Or.inr (Or.inr (Or.inl ⟨Or.inr rfl, S, rfl, rfl⟩))))) (by rw [List.length_cons, List.length_cons]; omega) st
    | 1, _ =>
      show RsK L B X Y p c d S (true :: S) (f_X1_readAll (fp_C f) 23 (nI d) X) (f_X12_readAllOf (fp_M f) Y)
      unfold f_X1_readAll f_X12_readAllOf
      rw [gd_t (show mLwB 23 = true by decide)]
      exact k_seq hT (tkC := fun M => f_X7_takes 422 M) (tkM := fun M => f_X12_passes 422 M) (rcC := fun M => fp_C f 2 23 (nI d) M) (rcM := fun M => fp_M f 2 M) (s := 1011) (cd := 15) (S1 := true :: true :: S) (fun X Y p hp hX hY => ⟨_, tk_word hT hp hX hY k22⟩) (fun X Y p c st => ih 2 d X Y p c S (by decide) hd (by omega) (by omega) st) (fun X Y p c st => ih 2 d X Y p c (true :: S) (by decide) hd (by omega) (by rw [List.length_cons]; omega) st) (fun a => hor a _ _ (Or.inl ⟨rfl, rfl⟩)) (Or.inr (Or.inr (Or.inr (Or.inr (Or.inl ⟨Or.inl rfl, S, rfl, rfl⟩))))) (by rw [List.length_cons, List.length_cons]; omega) st
    | 2, _ =>
      show RsK L B X Y p c d S (true :: S) (f_X1_readAtom (fp_C f) 23 (nI d) X) (f_X12_readAtom (fp_M f) Y)
      exact k_atom hT st hd (by omega) (fun h X Y p c S hl st => ih 0 (d + 1) X Y p c S (by decide) (by omega) (by omega) (by omega) st) (fun h X Y p c S hl st => ih 2 (d + 1) X Y p c S (by decide) (by omega) (by omega) (by omega) st)
    | t + 3, ht => omega
end
