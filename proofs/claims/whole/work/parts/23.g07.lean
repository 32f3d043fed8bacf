/-! the methods, by program -/
/-- WakeTowerModel.end(I)Z: 216, W -/
theorem kc_216 : mKc 216 = k_X12_end := rfl
def f_X12_end (p1 : Int32) (M0 : mM) : Option (Bool × mM) :=
  wr (mst M0 215 0 (0 : Int32)) (fun M1 => bif decide (p1 < 0) then (some (false, M1)) else (bif decide (p1 ≤ (M1 215 13)) then (wr (mst M1 215 13 p1) (fun M4 => some (true, M4))) else (some (false, M1))))
set_option maxRecDepth 8000 in
theorem c_X12_end {p1 : Int32} {M0 : mM} {out : (Bool × mM)} (h : f_X12_end p1 M0 = some out) : Cs (0) 216 [.ref 215, .int p1] M0 (emW eB out) := by
  generalize hk : emW eB out = R
  replace hk := hk.symm
  unfold f_X12_end at h
  show Ev (0) 216 0 [some (.ref 215), some (.int p1)] [] M0 R
  refine ev_go kc_216 2 (i' := 2) (L' := [some (.ref 215), some (.int p1)]) (st' := [.int (0 : Int32), .ref 215]) (M' := M0) rfl ?_
  obtain ⟨M1, hM1, h⟩ := o_wr h
  refine ev_pf kc_216 rfl rfl rfl rfl (fun hc => absurd hc (by decide)) hM1 ?_
  rcases o_bif h with ⟨hb2, h⟩ | ⟨hb2, h⟩
  · refine ev_goT kc_216 2 (t := 9) (e := 5) (L' := [some (.ref 215), some (.int p1)]) (st' := []) rfl hb2 ?_
    refine ev_go kc_216 1 (i' := 10) (L' := [some (.ref 215), some (.int p1)]) (st' := [.int (0 : Int32)]) (M' := M1) rfl ?_
    obtain rfl := Option.some.inj h
    rw [hk]
    exact ev_ret kc_216 rfl rfl rfl
  · refine ev_goF kc_216 2 (t := 9) (e := 5) (L' := [some (.ref 215), some (.int p1)]) (st' := []) rfl hb2 ?_
    rcases o_bif h with ⟨hb3, h⟩ | ⟨hb3, h⟩
    · refine ev_goT kc_216 4 (t := 11) (e := 9) (L' := [some (.ref 215), some (.int p1)]) (st' := []) rfl hb3 ?_
      refine ev_go kc_216 2 (i' := 13) (L' := [some (.ref 215), some (.int p1)]) (st' := [.int p1, .ref 215]) (M' := M1) rfl ?_
      obtain ⟨M4, hM4, h⟩ := o_wr h
      refine ev_pf kc_216 rfl rfl rfl rfl (fun hc => absurd hc (by decide)) hM4 ?_
      refine ev_go kc_216 1 (i' := 15) (L' := [some (.ref 215), some (.int p1)]) (st' := [.int (1 : Int32)]) (M' := M4) rfl ?_
      obtain rfl := Option.some.inj h
      rw [hk]
      exact ev_ret kc_216 rfl rfl rfl
    · refine ev_goF kc_216 4 (t := 11) (e := 9) (L' := [some (.ref 215), some (.int p1)]) (st' := []) rfl hb3 ?_
      refine ev_go kc_216 1 (i' := 10) (L' := [some (.ref 215), some (.int p1)]) (st' := [.int (0 : Int32)]) (M' := M1) rfl ?_
      obtain rfl := Option.some.inj h
      rw [hk]
      exact ev_ret kc_216 rfl rfl rfl
/-- WakeTowerModel.isAt(II)Z: 217, R -/
theorem kc_217 : mKc 217 = k_X12_isAt := rfl
def f_X12_isAt (p1 : Int32) (p2 : Int32) (M0 : mM) : Option Bool :=
  bif decide ((M0 215 15) ≤ (M0 215 14)) then (some false) else (gd (mIn (M0 215 14) 400) (bif decide ((M0 223 (ix (M0 215 14))) < p1) then (some false) else (gd (mIn (M0 215 14) 400) (bif decide (p2 < (M0 223 (ix (M0 215 14)))) then (some false) else (some true)))))
set_option maxRecDepth 8000 in
theorem c_X12_isAt {p1 : Int32} {p2 : Int32} {M0 : mM} {out : Bool} (h : f_X12_isAt p1 p2 M0 = some out) : Cs (0) 217 [.ref 215, .int p1, .int p2] M0 (emR eB M0 out) := by
  generalize hk : emR eB M0 out = R
  replace hk := hk.symm
  unfold f_X12_isAt at h
  show Ev (0) 217 0 [some (.ref 215), some (.int p1), some (.int p2)] [] M0 R
  rcases o_bif h with ⟨hb1, h⟩ | ⟨hb1, h⟩
  · refine ev_goT kc_217 5 (t := 21) (e := 5) (L' := [some (.ref 215), some (.int p1), some (.int p2)]) (st' := []) rfl hb1 ?_
    refine ev_go kc_217 1 (i' := 22) (L' := [some (.ref 215), some (.int p1), some (.int p2)]) (st' := [.int (0 : Int32)]) (M' := M0) rfl ?_
    obtain rfl := Option.some.inj h
    rw [hk]
    exact ev_ret kc_217 rfl rfl rfl
  · refine ev_goF kc_217 5 (t := 21) (e := 5) (L' := [some (.ref 215), some (.int p1), some (.int p2)]) (st' := []) rfl hb1 ?_
    refine ev_go kc_217 4 (i' := 9) (L' := [some (.ref 215), some (.int p1), some (.int p2)]) (st' := [.int (M0 215 14), .ref 223]) (M' := M0) rfl ?_
    obtain ⟨hg2, h⟩ := o_gd h
    refine ev_ba kc_217 rfl (n := 400) (Or.inl rfl) hg2 ?_
    rcases o_bif h with ⟨hb3, h⟩ | ⟨hb3, h⟩
    · refine ev_goT kc_217 2 (t := 21) (e := 12) (L' := [some (.ref 215), some (.int p1), some (.int p2)]) (st' := []) rfl hb3 ?_
      refine ev_go kc_217 1 (i' := 22) (L' := [some (.ref 215), some (.int p1), some (.int p2)]) (st' := [.int (0 : Int32)]) (M' := M0) rfl ?_
      obtain rfl := Option.some.inj h
      rw [hk]
      exact ev_ret kc_217 rfl rfl rfl
    · refine ev_goF kc_217 2 (t := 21) (e := 12) (L' := [some (.ref 215), some (.int p1), some (.int p2)]) (st' := []) rfl hb3 ?_
      refine ev_go kc_217 4 (i' := 16) (L' := [some (.ref 215), some (.int p1), some (.int p2)]) (st' := [.int (M0 215 14), .ref 223]) (M' := M0) rfl ?_
      obtain ⟨hg4, h⟩ := o_gd h
      refine ev_ba kc_217 rfl (n := 400) (Or.inl rfl) hg4 ?_
      rcases o_bif h with ⟨hb5, h⟩ | ⟨hb5, h⟩
      · refine ev_goT kc_217 2 (t := 21) (e := 19) (L' := [some (.ref 215), some (.int p1), some (.int p2)]) (st' := []) rfl hb5 ?_
        refine ev_go kc_217 1 (i' := 22) (L' := [some (.ref 215), some (.int p1), some (.int p2)]) (st' := [.int (0 : Int32)]) (M' := M0) rfl ?_
        obtain rfl := Option.some.inj h
        rw [hk]
        exact ev_ret kc_217 rfl rfl rfl
      · refine ev_goF kc_217 2 (t := 21) (e := 19) (L' := [some (.ref 215), some (.int p1), some (.int p2)]) (st' := []) rfl hb5 ?_
        refine ev_go kc_217 2 (i' := 22) (L' := [some (.ref 215), some (.int p1), some (.int p2)]) (st' := [.int (1 : Int32)]) (M' := M0) rfl ?_
        obtain rfl := Option.some.inj h
        rw [hk]
        exact ev_ret kc_217 rfl rfl rfl
/-- WakeTowerModel.blanks()V: 218, W -/
theorem kc_218 : mKc 218 = k_X12_blanks := rfl
def f_X12_blanks_0 (M0 : mM) : Option ((Unit × mM) ⊕ (mM)) :=
  b1 (f_X12_isAt (32 : Int32) (32 : Int32) M0) (fun v1 => bif v1 then (wr (mst M0 215 14 ((M0 215 14) + (1 : Int32))) (fun M3 => some (.inr M3))) else (wr (mst M0 215 16 (M0 215 14)) (fun M4 => some (.inl ((), M4)))))
set_option maxRecDepth 8000 in
theorem e_X12_blanks_0 {M0 : mM} {R : mZ} {out : ((Unit × mM) ⊕ (mM))}  (h : f_X12_blanks_0 M0 = some out) (hk : (∀ s' : mM, out = .inr s' → Ev (1) 218 0 [some (.ref 215)] [] (s') R) ∧ (∀ e1 : (Unit × mM), out = .inl e1 → R = emW eU e1)) : Ev (1) 218 0 [some (.ref 215)] [] M0 R := by
  unfold f_X12_blanks_0 at h
  refine ev_go kc_218 3 (i' := 3) (L' := [some (.ref 215)]) (st' := [.int (32 : Int32), .int (32 : Int32), .ref 215]) (M' := M0) rfl ?_
  obtain ⟨v1, hc1, h⟩ := o_b1 h
  refine ev_cl0 (ins := .invokevirtual 160) kc_218 rfl rfl (a := 217) (as := [.ref 215, .int (32 : Int32), .int (32 : Int32)]) (rest := []) rfl rfl (Cs.deep (c_X12_isAt (M0 := M0) hc1) (by decide)) ?_
  rcases o_bif h with ⟨hb2, h⟩ | ⟨hb2, h⟩
  · refine ev_goF kc_218 1 (t := 12) (e := 5) (L' := [some (.ref 215)]) (st' := []) rfl (mB_e0f hb2) ?_
    refine ev_go kc_218 5 (i' := 10) (L' := [some (.ref 215)]) (st' := [.int ((M0 215 14) + (1 : Int32)), .ref 215]) (M' := M0) rfl ?_
    obtain ⟨M3, hM3, h⟩ := o_wr h
    refine ev_pf kc_218 rfl rfl rfl rfl (fun hc => absurd hc (by decide)) hM3 ?_
    refine ev_go kc_218 1 (i' := 0) (L' := [some (.ref 215)]) (st' := []) (M' := M3) rfl ?_
    obtain rfl := Option.some.inj h
    exact Ev.forget (mLe.kp mLe.nl) (hk.1 M3 rfl)
  · refine ev_goT kc_218 1 (t := 12) (e := 5) (L' := [some (.ref 215)]) (st' := []) rfl (mB_e0t hb2) ?_
    refine ev_go kc_218 3 (i' := 15) (L' := [some (.ref 215)]) (st' := [.int (M0 215 14), .ref 215]) (M' := M0) rfl ?_
    obtain ⟨M4, hM4, h⟩ := o_wr h
    refine ev_pf kc_218 rfl rfl rfl rfl (fun hc => absurd hc (by decide)) hM4 ?_
    obtain rfl := Option.some.inj h
    rw [show _ from (hk.2 _ rfl)]
    exact ev_vret kc_218 rfl rfl rfl
def f_X12_blanks_l0 (M0 : mM) : Option (Unit × mM) :=
  wh 100000 (fun s : mM => f_X12_blanks_0 s) M0
theorem e_X12_blanks_l0 {M0 : mM} {R : mZ} {out : (Unit × mM)}  (h : f_X12_blanks_l0 M0 = some out) (hk : R = emW eU out) : Ev (1) 218 0 [some (.ref 215)] [] M0 R := by
  unfold f_X12_blanks_l0 at h
  exact wh_ev (P := fun s : mM => Ev (1) 218 0 [some (.ref 215)] [] s R) (Q := fun e : (Unit × mM) => R = emW eU e) (fun s o hb h1 h2 => e_X12_blanks_0  hb ⟨h1, h2⟩) 100000 _ _ h hk
def f_X12_blanks  (M0 : mM) : Option (Unit × mM) :=
  f_X12_blanks_l0 M0
set_option maxRecDepth 8000 in
theorem c_X12_blanks  {M0 : mM} {out : (Unit × mM)} (h : f_X12_blanks M0 = some out) : Cs (1) 218 [.ref 215] M0 (emW eU out) := by
  generalize hk : emW eU out = R
  replace hk := hk.symm
  unfold f_X12_blanks at h
  show Ev (1) 218 0 [some (.ref 215)] [] M0 R
  exact Ev.forget (mLe.kp mLe.nl) (e_X12_blanks_l0  h hk)
/-- WakeTowerModel.letters()V: 219, W -/
theorem kc_219 : mKc 219 = k_X12_letters := rfl
def f_X12_letters_2 (M0 : mM) : Option ((Unit × mM) ⊕ (mM)) :=
  b1 (f_X12_isAt (97 : Int32) (122 : Int32) M0) (fun v1 => bif v1 then (wr (mst M0 215 14 ((M0 215 14) + (1 : Int32))) (fun M3 => some (.inr M3))) else (some (.inl ((), M0))))
set_option maxRecDepth 8000 in
theorem e_X12_letters_2 {M0 : mM} {R : mZ} {out : ((Unit × mM) ⊕ (mM))}  (h : f_X12_letters_2 M0 = some out) (hk : (∀ s' : mM, out = .inr s' → Ev (2) 219 2 [some (.ref 215)] [] (s') R) ∧ (∀ e1 : (Unit × mM), out = .inl e1 → R = emW eU e1)) : Ev (2) 219 2 [some (.ref 215)] [] M0 R := by
  unfold f_X12_letters_2 at h
  refine ev_go kc_219 3 (i' := 5) (L' := [some (.ref 215)]) (st' := [.int (122 : Int32), .int (97 : Int32), .ref 215]) (M' := M0) rfl ?_
  obtain ⟨v1, hc1, h⟩ := o_b1 h
  refine ev_cl0 (ins := .invokevirtual 160) kc_219 rfl rfl (a := 217) (as := [.ref 215, .int (97 : Int32), .int (122 : Int32)]) (rest := []) rfl rfl (Cs.deep (c_X12_isAt (M0 := M0) hc1) (by decide)) ?_
  rcases o_bif h with ⟨hb2, h⟩ | ⟨hb2, h⟩
  · refine ev_goF kc_219 1 (t := 14) (e := 7) (L' := [some (.ref 215)]) (st' := []) rfl (mB_e0f hb2) ?_
    refine ev_go kc_219 5 (i' := 12) (L' := [some (.ref 215)]) (st' := [.int ((M0 215 14) + (1 : Int32)), .ref 215]) (M' := M0) rfl ?_
    obtain ⟨M3, hM3, h⟩ := o_wr h
    refine ev_pf kc_219 rfl rfl rfl rfl (fun hc => absurd hc (by decide)) hM3 ?_
    refine ev_go kc_219 1 (i' := 2) (L' := [some (.ref 215)]) (st' := []) (M' := M3) rfl ?_
    obtain rfl := Option.some.inj h
    exact Ev.forget (mLe.kp mLe.nl) (hk.1 M3 rfl)
  · refine ev_goT kc_219 1 (t := 14) (e := 7) (L' := [some (.ref 215)]) (st' := []) rfl (mB_e0t hb2) ?_
    obtain rfl := Option.some.inj h
    rw [show _ from (hk.2 _ rfl)]
    exact ev_vret kc_219 rfl rfl rfl
def f_X12_letters_l2 (M0 : mM) : Option (Unit × mM) :=
  wh 100000 (fun s : mM => f_X12_letters_2 s) M0
theorem e_X12_letters_l2 {M0 : mM} {R : mZ} {out : (Unit × mM)}  (h : f_X12_letters_l2 M0 = some out) (hk : R = emW eU out) : Ev (2) 219 2 [some (.ref 215)] [] M0 R := by
  unfold f_X12_letters_l2 at h
  exact wh_ev (P := fun s : mM => Ev (2) 219 2 [some (.ref 215)] [] s R) (Q := fun e : (Unit × mM) => R = emW eU e) (fun s o hb h1 h2 => e_X12_letters_2  hb ⟨h1, h2⟩) 100000 _ _ h hk
def f_X12_letters  (M0 : mM) : Option (Unit × mM) :=
  b2 (f_X12_blanks M0) (fun v4 M4 => f_X12_letters_l2 M4)
set_option maxRecDepth 8000 in
theorem c_X12_letters  {M0 : mM} {out : (Unit × mM)} (h : f_X12_letters M0 = some out) : Cs (2) 219 [.ref 215] M0 (emW eU out) := by
  generalize hk : emW eU out = R
  replace hk := hk.symm
  unfold f_X12_letters at h
  show Ev (2) 219 0 [some (.ref 215)] [] M0 R
  refine ev_go kc_219 1 (i' := 1) (L' := [some (.ref 215)]) (st' := [.ref 215]) (M' := M0) rfl ?_
  obtain ⟨v4, M4, hc4, h⟩ := o_b2 h
  refine ev_cl0 (ins := .invokevirtual 166) kc_219 rfl rfl (a := 218) (as := [.ref 215]) (rest := []) rfl rfl (Cs.deep (c_X12_blanks hc4) (by decide)) ?_
  exact Ev.forget (mLe.kp mLe.nl) (e_X12_letters_l2  h hk)
/-- WakeTowerModel.isWord(Ljava/lang/String;)Z: 220, R -/
theorem kc_220 : mKc 220 = k_X12_isWord := rfl
def f_X12_isWord_14 (o1 : Nat) (l2 : Int32) (l3 : Int32) (M0 : mM) : Option (Bool ⊕ (Int32 × Int32)) :=
  bif decide (l2 = 0) then (gd (mIsB l2) (some (.inl (decide (l2 = 1))))) else (bif decide ((nI (mTt o1).length) ≤ l3) then (gd (mIsB l2) (some (.inl (decide (l2 = 1))))) else (gd (mIn ((M0 215 16) + l3) 400) (gd (mIn l3 (mTt o1).length) (bif decide (¬ (M0 223 (ix ((M0 215 16) + l3))) = (nI ((mTt o1).getD (ix l3) 0))) then (some (.inr ((0 : Int32), (l3 + (1 : Int32))))) else (some (.inr ((1 : Int32), (l3 + (1 : Int32)))))))))
set_option maxRecDepth 8000 in
theorem e_X12_isWord_14 {o1 : Nat} {l2 : Int32} {l3 : Int32} {M0 : mM} {R : mZ} {out : (Bool ⊕ (Int32 × Int32))} (go1 : mTxB o1 = true) (h : f_X12_isWord_14 o1 l2 l3 M0 = some out) (hk : (∀ s' : Int32 × Int32, out = .inr s' → Ev (8) 220 14 [some (.ref 215), some (.ref o1), some (.int s'.1), some (.int s'.2)] [] M0 R) ∧ (∀ e1 : Bool, out = .inl e1 → R = emR eB M0 e1)) : Ev (8) 220 14 [some (.ref 215), some (.ref o1), some (.int l2), some (.int l3)] [] M0 R := by
  unfold f_X12_isWord_14 at h
  rcases o_bif h with ⟨hb1, h⟩ | ⟨hb1, h⟩
  · refine ev_goT kc_220 2 (t := 37) (e := 16) (L' := [some (.ref 215), some (.ref o1), some (.int l2), some (.int l3)]) (st' := []) rfl hb1 ?_
    refine ev_go kc_220 1 (i' := 38) (L' := [some (.ref 215), some (.ref o1), some (.int l2), some (.int l3)]) (st' := [.int l2]) (M' := M0) rfl ?_
    obtain ⟨hg2, h⟩ := o_gd h
    have hq2 := mIsB_eq hg2
    refine Ev.reval hq2 ?_
    obtain rfl := Option.some.inj h
    rw [show _ from (hk.2 _ rfl)]
    exact ev_ret kc_220 rfl rfl mB_rok
  · refine ev_goF kc_220 2 (t := 37) (e := 16) (L' := [some (.ref 215), some (.ref o1), some (.int l2), some (.int l3)]) (st' := []) rfl hb1 ?_
    refine ev_go kc_220 2 (i' := 18) (L' := [some (.ref 215), some (.ref o1), some (.int l2), some (.int l3)]) (st' := [.ref o1, .int l3]) (M' := M0) rfl ?_
    refine ev_tl kc_220 rfl rfl rfl rfl go1 ?_
    rcases o_bif h with ⟨hb3, h⟩ | ⟨hb3, h⟩
    · refine ev_goT kc_220 1 (t := 37) (e := 20) (L' := [some (.ref 215), some (.ref o1), some (.int l2), some (.int l3)]) (st' := []) rfl hb3 ?_
      refine ev_go kc_220 1 (i' := 38) (L' := [some (.ref 215), some (.ref o1), some (.int l2), some (.int l3)]) (st' := [.int l2]) (M' := M0) rfl ?_
      obtain ⟨hg4, h⟩ := o_gd h
      have hq4 := mIsB_eq hg4
      refine Ev.reval hq4 ?_
      obtain rfl := Option.some.inj h
      rw [show _ from (hk.2 _ rfl)]
      exact ev_ret kc_220 rfl rfl mB_rok
    · refine ev_goF kc_220 1 (t := 37) (e := 20) (L' := [some (.ref 215), some (.ref o1), some (.int l2), some (.int l3)]) (st' := []) rfl hb3 ?_
      refine ev_go kc_220 6 (i' := 26) (L' := [some (.ref 215), some (.ref o1), some (.int l2), some (.int l3)]) (st' := [.int ((M0 215 16) + l3), .ref 223]) (M' := M0) rfl ?_
      obtain ⟨hg5, h⟩ := o_gd h
      refine ev_ba kc_220 rfl (n := 400) (Or.inl rfl) hg5 ?_
      refine ev_go kc_220 2 (i' := 29) (L' := [some (.ref 215), some (.ref o1), some (.int l2), some (.int l3)]) (st' := [.int l3, .ref o1, .int (M0 223 (ix ((M0 215 16) + l3)))]) (M' := M0) rfl ?_
      obtain ⟨hg6, h⟩ := o_gd h
      refine ev_tc kc_220 rfl rfl rfl rfl go1 hg6 ?_
      rcases o_bif h with ⟨hb7, h⟩ | ⟨hb7, h⟩
      · refine ev_goT kc_220 1 (t := 33) (e := 31) (L' := [some (.ref 215), some (.ref o1), some (.int l2), some (.int l3)]) (st' := []) rfl hb7 ?_
        refine ev_go kc_220 4 (i' := 14) (L' := [some (.ref 215), some (.ref o1), some (.int (0 : Int32)), some (.int (l3 + (1 : Int32)))]) (st' := []) (M' := M0) rfl ?_
        obtain rfl := Option.some.inj h
        exact Ev.forget (mLe.kp (mLe.kp (mLe.kp (mLe.kp mLe.nl)))) (hk.1 ((0 : Int32), (l3 + (1 : Int32))) rfl)
      · refine ev_goF kc_220 1 (t := 33) (e := 31) (L' := [some (.ref 215), some (.ref o1), some (.int l2), some (.int l3)]) (st' := []) rfl hb7 ?_
        refine ev_go kc_220 5 (i' := 14) (L' := [some (.ref 215), some (.ref o1), some (.int (1 : Int32)), some (.int (l3 + (1 : Int32)))]) (st' := []) (M' := M0) rfl ?_
        obtain rfl := Option.some.inj h
        exact Ev.forget (mLe.kp (mLe.kp (mLe.kp (mLe.kp mLe.nl)))) (hk.1 ((1 : Int32), (l3 + (1 : Int32))) rfl)
def f_X12_isWord_l14 (o1 : Nat) (l2 : Int32) (l3 : Int32) (M0 : mM) : Option Bool :=
  wh 100000 (fun s : Int32 × Int32 => f_X12_isWord_14 o1 s.1 s.2 M0) (l2, l3)
theorem e_X12_isWord_l14 {o1 : Nat} {l2 : Int32} {l3 : Int32} {M0 : mM} {R : mZ} {out : Bool} (go1 : mTxB o1 = true) (h : f_X12_isWord_l14 o1 l2 l3 M0 = some out) (hk : R = emR eB M0 out) : Ev (8) 220 14 [some (.ref 215), some (.ref o1), some (.int l2), some (.int l3)] [] M0 R := by
  unfold f_X12_isWord_l14 at h
  exact wh_ev (P := fun s : Int32 × Int32 => Ev (8) 220 14 [some (.ref 215), some (.ref o1), some (.int s.1), some (.int s.2)] [] M0 R) (Q := fun e : Bool => R = emR eB M0 e) (fun s o hb h1 h2 => e_X12_isWord_14 go1 hb ⟨h1, h2⟩) 100000 _ _ h hk
def f_X12_isWord (o1 : Nat) (M0 : mM) : Option Bool :=
  gd (mTxB o1) (bif decide (¬ ((M0 215 14) - (M0 215 16)) = (nI (mTt o1).length)) then (f_X12_isWord_l14 o1 (0 : Int32) (0 : Int32) M0) else (f_X12_isWord_l14 o1 (1 : Int32) (0 : Int32) M0))
set_option maxRecDepth 8000 in
theorem c_X12_isWord {o1 : Nat} {M0 : mM} {out : Bool} (h : f_X12_isWord o1 M0 = some out) : Cs (8) 220 [.ref 215, .ref o1] M0 (emR eB M0 out) := by
  generalize hk : emR eB M0 out = R
  replace hk := hk.symm
  unfold f_X12_isWord at h
  obtain ⟨go1, h⟩ := o_gd h
  show Ev (8) 220 0 [some (.ref 215), some (.ref o1), none, none] [] M0 R
  refine ev_go kc_220 6 (i' := 6) (L' := [some (.ref 215), some (.ref o1), none, none]) (st' := [.ref o1, .int ((M0 215 14) - (M0 215 16))]) (M' := M0) rfl ?_
  refine ev_tl kc_220 rfl rfl rfl rfl go1 ?_
  rcases o_bif h with ⟨hb8, h⟩ | ⟨hb8, h⟩
  · refine ev_goT kc_220 1 (t := 10) (e := 8) (L' := [some (.ref 215), some (.ref o1), none, none]) (st' := []) rfl hb8 ?_
    refine ev_go kc_220 4 (i' := 14) (L' := [some (.ref 215), some (.ref o1), some (.int (0 : Int32)), some (.int (0 : Int32))]) (st' := []) (M' := M0) rfl ?_
    exact Ev.forget (mLe.kp (mLe.kp (mLe.kp (mLe.kp mLe.nl)))) (e_X12_isWord_l14 go1 h hk)
  · refine ev_goF kc_220 1 (t := 10) (e := 8) (L' := [some (.ref 215), some (.ref o1), none, none]) (st' := []) rfl hb8 ?_
    refine ev_go kc_220 5 (i' := 14) (L' := [some (.ref 215), some (.ref o1), some (.int (1 : Int32)), some (.int (0 : Int32))]) (st' := []) (M' := M0) rfl ?_
    exact Ev.forget (mLe.kp (mLe.kp (mLe.kp (mLe.kp mLe.nl)))) (e_X12_isWord_l14 go1 h hk)
/-- WakeTowerModel.passes(Ljava/lang/String;)Z: 221, W -/
theorem kc_221 : mKc 221 = k_X12_passes := rfl
def f_X12_passes (o1 : Nat) (M0 : mM) : Option (Bool × mM) :=
  gd (mTxB o1) (b2 (f_X12_letters M0) (fun v1 M1 => b1 (f_X12_isWord o1 M1) (fun v2 => bif v2 then (some (true, M1)) else (wr (mst M1 215 14 (M1 215 16)) (fun M4 => some (false, M4))))))
set_option maxRecDepth 8000 in
theorem c_X12_passes {o1 : Nat} {M0 : mM} {out : (Bool × mM)} (h : f_X12_passes o1 M0 = some out) : Cs (9) 221 [.ref 215, .ref o1] M0 (emW eB out) := by
  generalize hk : emW eB out = R
  replace hk := hk.symm
  unfold f_X12_passes at h
  obtain ⟨go1, h⟩ := o_gd h
  show Ev (9) 221 0 [some (.ref 215), some (.ref o1)] [] M0 R
  refine ev_go kc_221 1 (i' := 1) (L' := [some (.ref 215), some (.ref o1)]) (st' := [.ref 215]) (M' := M0) rfl ?_
  obtain ⟨v1, M1, hc1, h⟩ := o_b2 h
  refine ev_cl0 (ins := .invokevirtual 178) kc_221 rfl rfl (a := 219) (as := [.ref 215]) (rest := []) rfl rfl (Cs.deep (c_X12_letters hc1) (by decide)) ?_
  refine ev_go kc_221 2 (i' := 4) (L' := [some (.ref 215), some (.ref o1)]) (st' := [.ref o1, .ref 215]) (M' := M1) rfl ?_
  obtain ⟨v2, hc2, h⟩ := o_b1 h
  refine ev_cl0 (ins := .invokevirtual 181) kc_221 rfl rfl (a := 220) (as := [.ref 215, .ref o1]) (rest := []) rfl rfl (Cs.deep (c_X12_isWord (M0 := M1) hc2) (by decide)) ?_
  rcases o_bif h with ⟨hb3, h⟩ | ⟨hb3, h⟩
  · refine ev_goF kc_221 1 (t := 8) (e := 6) (L' := [some (.ref 215), some (.ref o1)]) (st' := []) rfl (mB_e0f hb3) ?_
    refine ev_go kc_221 1 (i' := 7) (L' := [some (.ref 215), some (.ref o1)]) (st' := [.int (1 : Int32)]) (M' := M1) rfl ?_
    obtain rfl := Option.some.inj h
    rw [hk]
    exact ev_ret kc_221 rfl rfl rfl
  · refine ev_goT kc_221 1 (t := 8) (e := 6) (L' := [some (.ref 215), some (.ref o1)]) (st' := []) rfl (mB_e0t hb3) ?_
    refine ev_go kc_221 3 (i' := 11) (L' := [some (.ref 215), some (.ref o1)]) (st' := [.int (M1 215 16), .ref 215]) (M' := M1) rfl ?_
    obtain ⟨M4, hM4, h⟩ := o_wr h
    refine ev_pf kc_221 rfl rfl rfl rfl (fun hc => absurd hc (by decide)) hM4 ?_
    refine ev_go kc_221 1 (i' := 13) (L' := [some (.ref 215), some (.ref o1)]) (st' := [.int (0 : Int32)]) (M' := M4) rfl ?_
    obtain rfl := Option.some.inj h
    rw [hk]
    exact ev_ret kc_221 rfl rfl rfl
/-- WakeTowerModel.sign(I)Z: 222, W -/
theorem kc_222 : mKc 222 = k_X12_sign := rfl
def f_X12_sign (p1 : Int32) (M0 : mM) : Option (Bool × mM) :=
  b2 (f_X12_blanks M0) (fun v1 M1 => b1 (f_X12_isAt p1 p1 M1) (fun v2 => bif v2 then (wr (mst M1 215 14 ((M1 215 14) + (1 : Int32))) (fun M4 => some (true, M4))) else (some (false, M1))))
set_option maxRecDepth 8000 in
theorem c_X12_sign {p1 : Int32} {M0 : mM} {out : (Bool × mM)} (h : f_X12_sign p1 M0 = some out) : Cs (2) 222 [.ref 215, .int p1] M0 (emW eB out) := by
  generalize hk : emW eB out = R
  replace hk := hk.symm
  unfold f_X12_sign at h
  show Ev (2) 222 0 [some (.ref 215), some (.int p1)] [] M0 R
  refine ev_go kc_222 1 (i' := 1) (L' := [some (.ref 215), some (.int p1)]) (st' := [.ref 215]) (M' := M0) rfl ?_
  obtain ⟨v1, M1, hc1, h⟩ := o_b2 h
  refine ev_cl0 (ins := .invokevirtual 166) kc_222 rfl rfl (a := 218) (as := [.ref 215]) (rest := []) rfl rfl (Cs.deep (c_X12_blanks hc1) (by decide)) ?_
  refine ev_go kc_222 3 (i' := 5) (L' := [some (.ref 215), some (.int p1)]) (st' := [.int p1, .int p1, .ref 215]) (M' := M1) rfl ?_
  obtain ⟨v2, hc2, h⟩ := o_b1 h
  refine ev_cl0 (ins := .invokevirtual 160) kc_222 rfl rfl (a := 217) (as := [.ref 215, .int p1, .int p1]) (rest := []) rfl rfl (Cs.deep (c_X12_isAt (M0 := M1) hc2) (by decide)) ?_
  rcases o_bif h with ⟨hb3, h⟩ | ⟨hb3, h⟩
  · refine ev_goT kc_222 1 (t := 9) (e := 7) (L' := [some (.ref 215), some (.int p1)]) (st' := []) rfl (mB_n0t hb3) ?_
    refine ev_go kc_222 5 (i' := 14) (L' := [some (.ref 215), some (.int p1)]) (st' := [.int ((M1 215 14) + (1 : Int32)), .ref 215]) (M' := M1) rfl ?_
    obtain ⟨M4, hM4, h⟩ := o_wr h
    refine ev_pf kc_222 rfl rfl rfl rfl (fun hc => absurd hc (by decide)) hM4 ?_
    refine ev_go kc_222 1 (i' := 16) (L' := [some (.ref 215), some (.int p1)]) (st' := [.int (1 : Int32)]) (M' := M4) rfl ?_
    obtain rfl := Option.some.inj h
    rw [hk]
    exact ev_ret kc_222 rfl rfl rfl
  · refine ev_goF kc_222 1 (t := 9) (e := 7) (L' := [some (.ref 215), some (.int p1)]) (st' := []) rfl (mB_n0f hb3) ?_
    refine ev_go kc_222 1 (i' := 8) (L' := [some (.ref 215), some (.int p1)]) (st' := [.int (0 : Int32)]) (M' := M1) rfl ?_
    obtain rfl := Option.some.inj h
    rw [hk]
    exact ev_ret kc_222 rfl rfl rfl
/-- WakeTowerModel.number(II)I: 223, W -/
theorem kc_223 : mKc 223 = k_X12_number := rfl
def f_X12_number_29 (l1 : Int32) (l2 : Int32) (s0 : Int32) (M0 : mM) : Option ((Int32 × mM) ⊕ (Int32 × mM)) :=
  wr (mst M0 215 14 ((M0 215 14) + (1 : Int32))) (fun M1 => some (.inr (s0, M1)))
set_option maxRecDepth 8000 in
theorem e_X12_number_29 {l1 : Int32} {l2 : Int32} {s0 : Int32} {M0 : mM} {R : mZ} {out : ((Int32 × mM) ⊕ (Int32 × mM))}  (h : f_X12_number_29 l1 l2 s0 M0 = some out) (hk : (∀ s' : Int32 × mM, out = .inr s' → Ev (2) 223 4 [some (.ref 215), some (.int l1), some (.int l2), some (.int s'.1)] [] (s'.2) R) ∧ (∀ e1 : (Int32 × mM), out = .inl e1 → R = emW eI e1)) : Ev (2) 223 29 [some (.ref 215), some (.int l1), some (.int l2), none] [.int s0] M0 R := by
  unfold f_X12_number_29 at h
  refine ev_go kc_223 6 (i' := 35) (L' := [some (.ref 215), some (.int l1), some (.int l2), some (.int s0)]) (st' := [.int ((M0 215 14) + (1 : Int32)), .ref 215]) (M' := M0) rfl ?_
  obtain ⟨M1, hM1, h⟩ := o_wr h
  refine ev_pf kc_223 rfl rfl rfl rfl (fun hc => absurd hc (by decide)) hM1 ?_
  refine ev_go kc_223 1 (i' := 4) (L' := [some (.ref 215), some (.int l1), some (.int l2), some (.int s0)]) (st' := []) (M' := M1) rfl ?_
  obtain rfl := Option.some.inj h
  exact Ev.forget (mLe.kp (mLe.kp (mLe.kp (mLe.kp mLe.nl)))) (hk.1 (s0, M1) rfl)
def f_X12_number_4 (l1 : Int32) (l2 : Int32) (l3 : Int32) (M0 : mM) : Option ((Int32 × mM) ⊕ (Int32 × mM)) :=
  b1 (f_X12_isAt (48 : Int32) (57 : Int32) M0) (fun v2 => bif v2 then (bif decide ((3 : Int32) ≤ ((M0 215 14) - (M0 215 16))) then (f_X12_number_29 l1 l2 l3 M0) else (gd (mIn (M0 215 14) 400) (f_X12_number_29 l1 l2 ((((10 : Int32) * l3) + (M0 223 (ix (M0 215 14)))) - (48 : Int32)) M0))) else (bif decide ((M0 215 14) = (M0 215 16)) then (some (.inl ((-1 : Int32), M0))) else (bif decide ((3 : Int32) < ((M0 215 14) - (M0 215 16))) then (some (.inl ((-1 : Int32), M0))) else (bif decide (l3 < l1) then (some (.inl ((-1 : Int32), M0))) else (bif decide (l3 ≤ l2) then (some (.inl (l3, M0))) else (some (.inl ((-1 : Int32), M0))))))))
set_option maxRecDepth 8000 in
theorem e_X12_number_4 {l1 : Int32} {l2 : Int32} {l3 : Int32} {M0 : mM} {R : mZ} {out : ((Int32 × mM) ⊕ (Int32 × mM))}  (h : f_X12_number_4 l1 l2 l3 M0 = some out) (hk : (∀ s' : Int32 × mM, out = .inr s' → Ev (2) 223 4 [some (.ref 215), some (.int l1), some (.int l2), some (.int s'.1)] [] (s'.2) R) ∧ (∀ e1 : (Int32 × mM), out = .inl e1 → R = emW eI e1)) : Ev (2) 223 4 [some (.ref 215), some (.int l1), some (.int l2), some (.int l3)] [] M0 R := by
  unfold f_X12_number_4 at h
  refine ev_go kc_223 3 (i' := 7) (L' := [some (.ref 215), some (.int l1), some (.int l2), some (.int l3)]) (st' := [.int (57 : Int32), .int (48 : Int32), .ref 215]) (M' := M0) rfl ?_
  obtain ⟨v2, hc2, h⟩ := o_b1 h
  refine ev_cl0 (ins := .invokevirtual 160) kc_223 rfl rfl (a := 217) (as := [.ref 215, .int (48 : Int32), .int (57 : Int32)]) (rest := []) rfl rfl (Cs.deep (c_X12_isAt (M0 := M0) hc2) (by decide)) ?_
  rcases o_bif h with ⟨hb3, h⟩ | ⟨hb3, h⟩
  · refine ev_goF kc_223 1 (t := 37) (e := 9) (L' := [some (.ref 215), some (.int l1), some (.int l2), some (.int l3)]) (st' := []) rfl (mB_e0f hb3) ?_
    rcases o_bif h with ⟨hb4, h⟩ | ⟨hb4, h⟩
    · refine ev_goT kc_223 7 (t := 28) (e := 16) (L' := [some (.ref 215), some (.int l1), some (.int l2), some (.int l3)]) (st' := []) rfl hb4 ?_
      refine ev_go kc_223 1 (i' := 29) (L' := [some (.ref 215), some (.int l1), some (.int l2), some (.int l3)]) (st' := [.int l3]) (M' := M0) rfl ?_
      exact Ev.forget (mLe.kp (mLe.kp (mLe.kp (mLe.sk mLe.nl)))) (e_X12_number_29  h hk)
    · refine ev_goF kc_223 7 (t := 28) (e := 16) (L' := [some (.ref 215), some (.int l1), some (.int l2), some (.int l3)]) (st' := []) rfl hb4 ?_
      refine ev_go kc_223 7 (i' := 23) (L' := [some (.ref 215), some (.int l1), some (.int l2), some (.int l3)]) (st' := [.int (M0 215 14), .ref 223, .int ((10 : Int32) * l3)]) (M' := M0) rfl ?_
      obtain ⟨hg5, h⟩ := o_gd h
      refine ev_ba kc_223 rfl (n := 400) (Or.inl rfl) hg5 ?_
      refine ev_go kc_223 4 (i' := 29) (L' := [some (.ref 215), some (.int l1), some (.int l2), some (.int l3)]) (st' := [.int ((((10 : Int32) * l3) + (M0 223 (ix (M0 215 14)))) - (48 : Int32))]) (M' := M0) rfl ?_
      exact Ev.forget (mLe.kp (mLe.kp (mLe.kp (mLe.sk mLe.nl)))) (e_X12_number_29  h hk)
  · refine ev_goT kc_223 1 (t := 37) (e := 9) (L' := [some (.ref 215), some (.int l1), some (.int l2), some (.int l3)]) (st' := []) rfl (mB_e0t hb3) ?_
    rcases o_bif h with ⟨hb6, h⟩ | ⟨hb6, h⟩
    · refine ev_goT kc_223 5 (t := 55) (e := 42) (L' := [some (.ref 215), some (.int l1), some (.int l2), some (.int l3)]) (st' := []) rfl hb6 ?_
      refine ev_go kc_223 2 (i' := 58) (L' := [some (.ref 215), some (.int l1), some (.int l2), some (.int l3)]) (st' := [.int (-1 : Int32)]) (M' := M0) rfl ?_
      obtain rfl := Option.some.inj h
      rw [show _ from (hk.2 _ rfl)]
      exact ev_ret kc_223 rfl rfl rfl
    · refine ev_goF kc_223 5 (t := 55) (e := 42) (L' := [some (.ref 215), some (.int l1), some (.int l2), some (.int l3)]) (st' := []) rfl hb6 ?_
      rcases o_bif h with ⟨hb7, h⟩ | ⟨hb7, h⟩
      · refine ev_goT kc_223 7 (t := 55) (e := 49) (L' := [some (.ref 215), some (.int l1), some (.int l2), some (.int l3)]) (st' := []) rfl hb7 ?_
        refine ev_go kc_223 2 (i' := 58) (L' := [some (.ref 215), some (.int l1), some (.int l2), some (.int l3)]) (st' := [.int (-1 : Int32)]) (M' := M0) rfl ?_
        obtain rfl := Option.some.inj h
        rw [show _ from (hk.2 _ rfl)]
        exact ev_ret kc_223 rfl rfl rfl
      · refine ev_goF kc_223 7 (t := 55) (e := 49) (L' := [some (.ref 215), some (.int l1), some (.int l2), some (.int l3)]) (st' := []) rfl hb7 ?_
        rcases o_bif h with ⟨hb8, h⟩ | ⟨hb8, h⟩
        · refine ev_goT kc_223 3 (t := 55) (e := 52) (L' := [some (.ref 215), some (.int l1), some (.int l2), some (.int l3)]) (st' := []) rfl hb8 ?_
          refine ev_go kc_223 2 (i' := 58) (L' := [some (.ref 215), some (.int l1), some (.int l2), some (.int l3)]) (st' := [.int (-1 : Int32)]) (M' := M0) rfl ?_
          obtain rfl := Option.some.inj h
          rw [show _ from (hk.2 _ rfl)]
          exact ev_ret kc_223 rfl rfl rfl
        · refine ev_goF kc_223 3 (t := 55) (e := 52) (L' := [some (.ref 215), some (.int l1), some (.int l2), some (.int l3)]) (st' := []) rfl hb8 ?_
          rcases o_bif h with ⟨hb9, h⟩ | ⟨hb9, h⟩
          · refine ev_goT kc_223 3 (t := 57) (e := 55) (L' := [some (.ref 215), some (.int l1), some (.int l2), some (.int l3)]) (st' := []) rfl hb9 ?_
            refine ev_go kc_223 1 (i' := 58) (L' := [some (.ref 215), some (.int l1), some (.int l2), some (.int l3)]) (st' := [.int l3]) (M' := M0) rfl ?_
            obtain rfl := Option.some.inj h
            rw [show _ from (hk.2 _ rfl)]
            exact ev_ret kc_223 rfl rfl rfl
          · refine ev_goF kc_223 3 (t := 57) (e := 55) (L' := [some (.ref 215), some (.int l1), some (.int l2), some (.int l3)]) (st' := []) rfl hb9 ?_
            refine ev_go kc_223 2 (i' := 58) (L' := [some (.ref 215), some (.int l1), some (.int l2), some (.int l3)]) (st' := [.int (-1 : Int32)]) (M' := M0) rfl ?_
            obtain rfl := Option.some.inj h
            rw [show _ from (hk.2 _ rfl)]
            exact ev_ret kc_223 rfl rfl rfl
def f_X12_number_l4 (l1 : Int32) (l2 : Int32) (l3 : Int32) (M0 : mM) : Option (Int32 × mM) :=
  wh 100000 (fun s : Int32 × mM => f_X12_number_4 l1 l2 s.1 s.2) (l3, M0)
theorem e_X12_number_l4 {l1 : Int32} {l2 : Int32} {l3 : Int32} {M0 : mM} {R : mZ} {out : (Int32 × mM)}  (h : f_X12_number_l4 l1 l2 l3 M0 = some out) (hk : R = emW eI out) : Ev (2) 223 4 [some (.ref 215), some (.int l1), some (.int l2), some (.int l3)] [] M0 R := by
  unfold f_X12_number_l4 at h
  exact wh_ev (P := fun s : Int32 × mM => Ev (2) 223 4 [some (.ref 215), some (.int l1), some (.int l2), some (.int s.1)] [] s.2 R) (Q := fun e : (Int32 × mM) => R = emW eI e) (fun s o hb h1 h2 => e_X12_number_4  hb ⟨h1, h2⟩) 100000 _ _ h hk
def f_X12_number (p1 : Int32) (p2 : Int32) (M0 : mM) : Option (Int32 × mM) :=
  b2 (f_X12_blanks M0) (fun v10 M10 => f_X12_number_l4 p1 p2 (0 : Int32) M10)
set_option maxRecDepth 8000 in
theorem c_X12_number {p1 : Int32} {p2 : Int32} {M0 : mM} {out : (Int32 × mM)} (h : f_X12_number p1 p2 M0 = some out) : Cs (2) 223 [.ref 215, .int p1, .int p2] M0 (emW eI out) := by
  generalize hk : emW eI out = R
  replace hk := hk.symm
  unfold f_X12_number at h
  show Ev (2) 223 0 [some (.ref 215), some (.int p1), some (.int p2), none] [] M0 R
  refine ev_go kc_223 1 (i' := 1) (L' := [some (.ref 215), some (.int p1), some (.int p2), none]) (st' := [.ref 215]) (M' := M0) rfl ?_
  obtain ⟨v10, M10, hc10, h⟩ := o_b2 h
  refine ev_cl0 (ins := .invokevirtual 166) kc_223 rfl rfl (a := 218) (as := [.ref 215]) (rest := []) rfl rfl (Cs.deep (c_X12_blanks hc10) (by decide)) ?_
  refine ev_go kc_223 2 (i' := 4) (L' := [some (.ref 215), some (.int p1), some (.int p2), some (.int (0 : Int32))]) (st' := []) (M' := M10) rfl ?_
  exact Ev.forget (mLe.kp (mLe.kp (mLe.kp (mLe.kp mLe.nl)))) (e_X12_number_l4  h hk)
/-- WakeTowerModel.after(Ljava/lang/String;II)I: 224, W -/
theorem kc_224 : mKc 224 = k_X12_after := rfl
def f_X12_after (o1 : Nat) (p2 : Int32) (p3 : Int32) (M0 : mM) : Option (Int32 × mM) :=
  gd (mTxB o1) (b2 (f_X12_letters M0) (fun v1 M1 => b1 (f_X12_isWord o1 M1) (fun v2 => bif v2 then (b2 (f_X12_number p2 p3 M1) (fun v4 M4 => some (v4, M4))) else (some ((-1 : Int32), M1)))))
set_option maxRecDepth 8000 in
theorem c_X12_after {o1 : Nat} {p2 : Int32} {p3 : Int32} {M0 : mM} {out : (Int32 × mM)} (h : f_X12_after o1 p2 p3 M0 = some out) : Cs (9) 224 [.ref 215, .ref o1, .int p2, .int p3] M0 (emW eI out) := by
  generalize hk : emW eI out = R
  replace hk := hk.symm
  unfold f_X12_after at h
  obtain ⟨go1, h⟩ := o_gd h
  show Ev (9) 224 0 [some (.ref 215), some (.ref o1), some (.int p2), some (.int p3)] [] M0 R
  refine ev_go kc_224 1 (i' := 1) (L' := [some (.ref 215), some (.ref o1), some (.int p2), some (.int p3)]) (st' := [.ref 215]) (M' := M0) rfl ?_
  obtain ⟨v1, M1, hc1, h⟩ := o_b2 h
  refine ev_cl0 (ins := .invokevirtual 178) kc_224 rfl rfl (a := 219) (as := [.ref 215]) (rest := []) rfl rfl (Cs.deep (c_X12_letters hc1) (by decide)) ?_
  refine ev_go kc_224 2 (i' := 4) (L' := [some (.ref 215), some (.ref o1), some (.int p2), some (.int p3)]) (st' := [.ref o1, .ref 215]) (M' := M1) rfl ?_
  obtain ⟨v2, hc2, h⟩ := o_b1 h
  refine ev_cl0 (ins := .invokevirtual 181) kc_224 rfl rfl (a := 220) (as := [.ref 215, .ref o1]) (rest := []) rfl rfl (Cs.deep (c_X12_isWord (M0 := M1) hc2) (by decide)) ?_
  rcases o_bif h with ⟨hb3, h⟩ | ⟨hb3, h⟩
  · refine ev_goF kc_224 1 (t := 11) (e := 6) (L' := [some (.ref 215), some (.ref o1), some (.int p2), some (.int p3)]) (st' := []) rfl (mB_e0f hb3) ?_
    refine ev_go kc_224 3 (i' := 9) (L' := [some (.ref 215), some (.ref o1), some (.int p2), some (.int p3)]) (st' := [.int p3, .int p2, .ref 215]) (M' := M1) rfl ?_
    obtain ⟨v4, M4, hc4, h⟩ := o_b2 h
    refine ev_cl0 (ins := .invokevirtual 185) kc_224 rfl rfl (a := 223) (as := [.ref 215, .int p2, .int p3]) (rest := []) rfl rfl (Cs.deep (c_X12_number hc4) (by decide)) ?_
    refine ev_go kc_224 1 (i' := 12) (L' := [some (.ref 215), some (.ref o1), some (.int p2), some (.int p3)]) (st' := [.int v4]) (M' := M4) rfl ?_
    obtain rfl := Option.some.inj h
    rw [hk]
    exact ev_ret kc_224 rfl rfl rfl
  · refine ev_goT kc_224 1 (t := 11) (e := 6) (L' := [some (.ref 215), some (.ref o1), some (.int p2), some (.int p3)]) (st' := []) rfl (mB_e0t hb3) ?_
    refine ev_go kc_224 1 (i' := 12) (L' := [some (.ref 215), some (.ref o1), some (.int p2), some (.int p3)]) (st' := [.int (-1 : Int32)]) (M' := M1) rfl ?_
    obtain rfl := Option.some.inj h
    rw [hk]
    exact ev_ret kc_224 rfl rfl rfl
/-- WakeTowerModel.fault()I: 225, W -/
theorem kc_225 : mKc 225 = k_X12_fault := rfl
def f_X12_fault  (M0 : mM) : Option (Int32 × mM) :=
  wr (mst M0 215 0 (0 : Int32)) (fun M1 => some ((M1 215 18), M1))
set_option maxRecDepth 8000 in
theorem c_X12_fault  {M0 : mM} {out : (Int32 × mM)} (h : f_X12_fault M0 = some out) : Cs (0) 225 [.ref 215] M0 (emW eI out) := by
  generalize hk : emW eI out = R
  replace hk := hk.symm
  unfold f_X12_fault at h
  show Ev (0) 225 0 [some (.ref 215)] [] M0 R
  refine ev_go kc_225 2 (i' := 2) (L' := [some (.ref 215)]) (st' := [.int (0 : Int32), .ref 215]) (M' := M0) rfl ?_
  obtain ⟨M1, hM1, h⟩ := o_wr h
  refine ev_pf kc_225 rfl rfl rfl rfl (fun hc => absurd hc (by decide)) hM1 ?_
  refine ev_go kc_225 2 (i' := 5) (L' := [some (.ref 215)]) (st' := [.int (M1 215 18)]) (M' := M1) rfl ?_
  obtain rfl := Option.some.inj h
  rw [hk]
  exact ev_ret kc_225 rfl rfl rfl
/-- WakeTowerModel.uses()V: 226, W -/
theorem kc_226 : mKc 226 = k_X12_uses := rfl
def f_X12_uses  (M0 : mM) : Option (Unit × mM) :=
  wr (mst M0 215 0 (0 : Int32)) (fun M1 => wr (mst M1 215 15 (M1 215 13)) (fun M2 => wr (mst M2 215 13 (0 : Int32)) (fun M3 => wr (mst M3 215 14 (0 : Int32)) (fun M4 => some ((), M4)))))
set_option maxRecDepth 8000 in
theorem c_X12_uses  {M0 : mM} {out : (Unit × mM)} (h : f_X12_uses M0 = some out) : Cs (0) 226 [.ref 215] M0 (emW eU out) := by
  generalize hk : emW eU out = R
  replace hk := hk.symm
  unfold f_X12_uses at h
  show Ev (0) 226 0 [some (.ref 215)] [] M0 R
  refine ev_go kc_226 2 (i' := 2) (L' := [some (.ref 215)]) (st' := [.int (0 : Int32), .ref 215]) (M' := M0) rfl ?_
  obtain ⟨M1, hM1, h⟩ := o_wr h
  refine ev_pf kc_226 rfl rfl rfl rfl (fun hc => absurd hc (by decide)) hM1 ?_
  refine ev_go kc_226 3 (i' := 6) (L' := [some (.ref 215)]) (st' := [.int (M1 215 13), .ref 215]) (M' := M1) rfl ?_
  obtain ⟨M2, hM2, h⟩ := o_wr h
  refine ev_pf kc_226 rfl rfl rfl rfl (fun hc => absurd hc (by decide)) hM2 ?_
  refine ev_go kc_226 2 (i' := 9) (L' := [some (.ref 215)]) (st' := [.int (0 : Int32), .ref 215]) (M' := M2) rfl ?_
  obtain ⟨M3, hM3, h⟩ := o_wr h
  refine ev_pf kc_226 rfl rfl rfl rfl (fun hc => absurd hc (by decide)) hM3 ?_
  refine ev_go kc_226 2 (i' := 12) (L' := [some (.ref 215)]) (st' := [.int (0 : Int32), .ref 215]) (M' := M3) rfl ?_
  obtain ⟨M4, hM4, h⟩ := o_wr h
  refine ev_pf kc_226 rfl rfl rfl rfl (fun hc => absurd hc (by decide)) hM4 ?_
  obtain rfl := Option.some.inj h
  rw [hk]
  exact ev_vret kc_226 rfl rfl rfl
/-- WakeTowerModel.readNumber(III)Z: 227, W -/
theorem kc_227 : mKc 227 = k_X12_readNumber := rfl
def f_X12_readNumber_16 (l4 : Int32) (s1 : Int32) (s2 : Int32) (M0 : mM) : Option (Bool × mM) :=
  gd (mIn s1 2122) (wr (mst M0 216 (ix s1) s2) (fun M1 => bif decide (l4 < 0) then (some (false, M1)) else (some (true, M1))))
set_option maxRecDepth 8000 in
theorem e_X12_readNumber_16 {l4 : Int32} {s1 : Int32} {s2 : Int32} {M0 : mM} {R : mZ} {out : (Bool × mM)}  (h : f_X12_readNumber_16 l4 s1 s2 M0 = some out) (hk : R = emW eB out) : Ev (3) 227 16 [none, none, none, none, some (.int l4)] [.int s2, .int s1, .ref 216] M0 R := by
  unfold f_X12_readNumber_16 at h
  obtain ⟨hg2, h⟩ := o_gd h
  obtain ⟨M1, hM1, h⟩ := o_wr h
  refine ev_is kc_227 rfl rfl hg2 hM1 ?_
  rcases o_bif h with ⟨hb3, h⟩ | ⟨hb3, h⟩
  · refine ev_goT kc_227 2 (t := 21) (e := 19) (L' := [none, none, none, none, some (.int l4)]) (st' := []) rfl hb3 ?_
    refine ev_go kc_227 1 (i' := 22) (L' := [none, none, none, none, some (.int l4)]) (st' := [.int (0 : Int32)]) (M' := M1) rfl ?_
    obtain rfl := Option.some.inj h
    rw [hk]
    exact ev_ret kc_227 rfl rfl rfl
  · refine ev_goF kc_227 2 (t := 21) (e := 19) (L' := [none, none, none, none, some (.int l4)]) (st' := []) rfl hb3 ?_
    refine ev_go kc_227 2 (i' := 22) (L' := [none, none, none, none, some (.int l4)]) (st' := [.int (1 : Int32)]) (M' := M1) rfl ?_
    obtain rfl := Option.some.inj h
    rw [hk]
    exact ev_ret kc_227 rfl rfl rfl
def f_X12_readNumber (p1 : Int32) (p2 : Int32) (p3 : Int32) (M0 : mM) : Option (Bool × mM) :=
  b2 (f_X12_number p2 p3 M0) (fun v4 M4 => bif decide (0 ≤ v4) then (f_X12_readNumber_16 v4 p1 v4 M4) else (gd (mIn p1 2122) (f_X12_readNumber_16 v4 p1 (M4 216 (ix p1)) M4)))
set_option maxRecDepth 8000 in
theorem c_X12_readNumber {p1 : Int32} {p2 : Int32} {p3 : Int32} {M0 : mM} {out : (Bool × mM)} (h : f_X12_readNumber p1 p2 p3 M0 = some out) : Cs (3) 227 [.ref 215, .int p1, .int p2, .int p3] M0 (emW eB out) := by
  generalize hk : emW eB out = R
  replace hk := hk.symm
  unfold f_X12_readNumber at h
  show Ev (3) 227 0 [some (.ref 215), some (.int p1), some (.int p2), some (.int p3), none] [] M0 R
  refine ev_go kc_227 3 (i' := 3) (L' := [some (.ref 215), some (.int p1), some (.int p2), some (.int p3), none]) (st' := [.int p3, .int p2, .ref 215]) (M' := M0) rfl ?_
  obtain ⟨v4, M4, hc4, h⟩ := o_b2 h
  refine ev_cl0 (ins := .invokevirtual 185) kc_227 rfl rfl (a := 223) (as := [.ref 215, .int p2, .int p3]) (rest := []) rfl rfl (Cs.deep (c_X12_number hc4) (by decide)) ?_
  rcases o_bif h with ⟨hb5, h⟩ | ⟨hb5, h⟩
  · refine ev_goT kc_227 6 (t := 15) (e := 10) (L' := [some (.ref 215), some (.int p1), some (.int p2), some (.int p3), some (.int v4)]) (st' := [.int p1, .ref 216]) rfl hb5 ?_
    refine ev_go kc_227 1 (i' := 16) (L' := [some (.ref 215), some (.int p1), some (.int p2), some (.int p3), some (.int v4)]) (st' := [.int v4, .int p1, .ref 216]) (M' := M4) rfl ?_
    exact Ev.forget (mLe.sk (mLe.sk (mLe.sk (mLe.sk (mLe.kp mLe.nl))))) (e_X12_readNumber_16  h hk)
  · refine ev_goF kc_227 6 (t := 15) (e := 10) (L' := [some (.ref 215), some (.int p1), some (.int p2), some (.int p3), some (.int v4)]) (st' := [.int p1, .ref 216]) rfl hb5 ?_
    refine ev_go kc_227 3 (i' := 13) (L' := [some (.ref 215), some (.int p1), some (.int p2), some (.int p3), some (.int v4)]) (st' := [.int p1, .ref 216, .int p1, .ref 216]) (M' := M4) rfl ?_
    obtain ⟨hg6, h⟩ := o_gd h
    refine ev_ia kc_227 rfl rfl hg6 ?_
    refine ev_go kc_227 1 (i' := 16) (L' := [some (.ref 215), some (.int p1), some (.int p2), some (.int p3), some (.int v4)]) (st' := [.int (M4 216 (ix p1)), .int p1, .ref 216]) (M' := M4) rfl ?_
    exact Ev.forget (mLe.sk (mLe.sk (mLe.sk (mLe.sk (mLe.kp mLe.nl))))) (e_X12_readNumber_16  h hk)
/-- WakeTowerModel.readPerson()Z: 228, W -/
theorem kc_228 : mKc 228 = k_X12_readPerson := rfl
def f_X12_readPerson_23 (l1 : Int32) (l2 : Int32) (s0 : Int32) (M0 : mM) : Option (Bool × mM) :=
  bif decide (0 ≤ s0) then (gd (mIn (f_X12_at l1 (0 : Int32)) 2122) (wr (mst M0 216 (ix (f_X12_at l1 (0 : Int32))) l2) (fun M3 => gd (mIn (f_X12_at l1 (1 : Int32)) 2122) (wr (mst M3 216 (ix (f_X12_at l1 (1 : Int32))) s0) (fun M6 => gd (mIn (f_X12_at l1 (2 : Int32)) 2122) (wr (mst M6 216 (ix (f_X12_at l1 (2 : Int32))) s0) (fun M9 => gd (mIn (f_X12_at l1 (3 : Int32)) 2122) (wr (mst M9 216 (ix (f_X12_at l1 (3 : Int32))) (0 : Int32)) (fun M12 => gd (mIn (f_X12_at l1 (4 : Int32)) 2122) (wr (mst M12 216 (ix (f_X12_at l1 (4 : Int32))) (0 : Int32)) (fun M15 => gd (mIn (f_X12_at l1 (5 : Int32)) 2122) (wr (mst M15 216 (ix (f_X12_at l1 (5 : Int32))) (-1 : Int32)) (fun M18 => gd (mIn (f_X12_at l1 (6 : Int32)) 2122) (wr (mst M18 216 (ix (f_X12_at l1 (6 : Int32))) (0 : Int32)) (fun M21 => wr (mst M21 216 (ix (0 : Int32)) ((M21 216 (ix (0 : Int32))) + (1 : Int32))) (fun M23 => some (true, M23))))))))))))))))) else (some (false, M0))
set_option maxRecDepth 8000 in
theorem e_X12_readPerson_23 {l1 : Int32} {l2 : Int32} {s0 : Int32} {M0 : mM} {R : mZ} {out : (Bool × mM)}  (h : f_X12_readPerson_23 l1 l2 s0 M0 = some out) (hk : R = emW eB out) : Ev (10) 228 23 [some (.ref 215), some (.int l1), some (.int l2), none] [.int s0] M0 R := by
  unfold f_X12_readPerson_23 at h
  rcases o_bif h with ⟨hb1, h⟩ | ⟨hb1, h⟩
  · refine ev_goT kc_228 3 (t := 28) (e := 26) (L' := [some (.ref 215), some (.int l1), some (.int l2), some (.int s0)]) (st' := []) rfl hb1 ?_
    refine ev_go kc_228 4 (i' := 32) (L' := [some (.ref 215), some (.int l1), some (.int l2), some (.int s0)]) (st' := [.int (0 : Int32), .int l1, .ref 216]) (M' := M0) rfl ?_
    refine ev_cl0 (ins := .invokestatic 75) kc_228 rfl rfl (a := 192) (as := [.int l1, .int (0 : Int32)]) (rest := [.ref 216]) rfl rfl (Cs.deep (c_X12_at (M0 := M0)) (by decide)) ?_
    refine ev_go kc_228 1 (i' := 34) (L' := [some (.ref 215), some (.int l1), some (.int l2), some (.int s0)]) (st' := [.int l2, .int (f_X12_at l1 (0 : Int32)), .ref 216]) (M' := M0) rfl ?_
    obtain ⟨hg4, h⟩ := o_gd h
    obtain ⟨M3, hM3, h⟩ := o_wr h
    refine ev_is kc_228 rfl rfl hg4 hM3 ?_
    refine ev_go kc_228 4 (i' := 39) (L' := [some (.ref 215), some (.int l1), some (.int l2), some (.int s0)]) (st' := [.int (1 : Int32), .int l1, .ref 216]) (M' := M3) rfl ?_
    refine ev_cl0 (ins := .invokestatic 75) kc_228 rfl rfl (a := 192) (as := [.int l1, .int (1 : Int32)]) (rest := [.ref 216]) rfl rfl (Cs.deep (c_X12_at (M0 := M3)) (by decide)) ?_
    refine ev_go kc_228 1 (i' := 41) (L' := [some (.ref 215), some (.int l1), some (.int l2), some (.int s0)]) (st' := [.int s0, .int (f_X12_at l1 (1 : Int32)), .ref 216]) (M' := M3) rfl ?_
    obtain ⟨hg7, h⟩ := o_gd h
    obtain ⟨M6, hM6, h⟩ := o_wr h
    refine ev_is kc_228 rfl rfl hg7 hM6 ?_
    refine ev_go kc_228 4 (i' := 46) (L' := [some (.ref 215), some (.int l1), some (.int l2), some (.int s0)]) (st' := [.int (2 : Int32), .int l1, .ref 216]) (M' := M6) rfl ?_
    refine ev_cl0 (ins := .invokestatic 75) kc_228 rfl rfl (a := 192) (as := [.int l1, .int (2 : Int32)]) (rest := [.ref 216]) rfl rfl (Cs.deep (c_X12_at (M0 := M6)) (by decide)) ?_
    refine ev_go kc_228 1 (i' := 48) (L' := [some (.ref 215), some (.int l1), some (.int l2), some (.int s0)]) (st' := [.int s0, .int (f_X12_at l1 (2 : Int32)), .ref 216]) (M' := M6) rfl ?_
    obtain ⟨hg10, h⟩ := o_gd h
    obtain ⟨M9, hM9, h⟩ := o_wr h
    refine ev_is kc_228 rfl rfl hg10 hM9 ?_
    refine ev_go kc_228 4 (i' := 53) (L' := [some (.ref 215), some (.int l1), some (.int l2), some (.int s0)]) (st' := [.int (3 : Int32), .int l1, .ref 216]) (M' := M9) rfl ?_
    refine ev_cl0 (ins := .invokestatic 75) kc_228 rfl rfl (a := 192) (as := [.int l1, .int (3 : Int32)]) (rest := [.ref 216]) rfl rfl (Cs.deep (c_X12_at (M0 := M9)) (by decide)) ?_
    refine ev_go kc_228 1 (i' := 55) (L' := [some (.ref 215), some (.int l1), some (.int l2), some (.int s0)]) (st' := [.int (0 : Int32), .int (f_X12_at l1 (3 : Int32)), .ref 216]) (M' := M9) rfl ?_
    obtain ⟨hg13, h⟩ := o_gd h
    obtain ⟨M12, hM12, h⟩ := o_wr h
    refine ev_is kc_228 rfl rfl hg13 hM12 ?_
    refine ev_go kc_228 4 (i' := 60) (L' := [some (.ref 215), some (.int l1), some (.int l2), some (.int s0)]) (st' := [.int (4 : Int32), .int l1, .ref 216]) (M' := M12) rfl ?_
    refine ev_cl0 (ins := .invokestatic 75) kc_228 rfl rfl (a := 192) (as := [.int l1, .int (4 : Int32)]) (rest := [.ref 216]) rfl rfl (Cs.deep (c_X12_at (M0 := M12)) (by decide)) ?_
    refine ev_go kc_228 1 (i' := 62) (L' := [some (.ref 215), some (.int l1), some (.int l2), some (.int s0)]) (st' := [.int (0 : Int32), .int (f_X12_at l1 (4 : Int32)), .ref 216]) (M' := M12) rfl ?_
    obtain ⟨hg16, h⟩ := o_gd h
    obtain ⟨M15, hM15, h⟩ := o_wr h
    refine ev_is kc_228 rfl rfl hg16 hM15 ?_
    refine ev_go kc_228 4 (i' := 67) (L' := [some (.ref 215), some (.int l1), some (.int l2), some (.int s0)]) (st' := [.int (5 : Int32), .int l1, .ref 216]) (M' := M15) rfl ?_
    refine ev_cl0 (ins := .invokestatic 75) kc_228 rfl rfl (a := 192) (as := [.int l1, .int (5 : Int32)]) (rest := [.ref 216]) rfl rfl (Cs.deep (c_X12_at (M0 := M15)) (by decide)) ?_
    refine ev_go kc_228 1 (i' := 69) (L' := [some (.ref 215), some (.int l1), some (.int l2), some (.int s0)]) (st' := [.int (-1 : Int32), .int (f_X12_at l1 (5 : Int32)), .ref 216]) (M' := M15) rfl ?_
    obtain ⟨hg19, h⟩ := o_gd h
    obtain ⟨M18, hM18, h⟩ := o_wr h
    refine ev_is kc_228 rfl rfl hg19 hM18 ?_
    refine ev_go kc_228 4 (i' := 74) (L' := [some (.ref 215), some (.int l1), some (.int l2), some (.int s0)]) (st' := [.int (6 : Int32), .int l1, .ref 216]) (M' := M18) rfl ?_
    refine ev_cl0 (ins := .invokestatic 75) kc_228 rfl rfl (a := 192) (as := [.int l1, .int (6 : Int32)]) (rest := [.ref 216]) rfl rfl (Cs.deep (c_X12_at (M0 := M18)) (by decide)) ?_
    refine ev_go kc_228 1 (i' := 76) (L' := [some (.ref 215), some (.int l1), some (.int l2), some (.int s0)]) (st' := [.int (0 : Int32), .int (f_X12_at l1 (6 : Int32)), .ref 216]) (M' := M18) rfl ?_
    obtain ⟨hg22, h⟩ := o_gd h
    obtain ⟨M21, hM21, h⟩ := o_wr h
    refine ev_is kc_228 rfl rfl hg22 hM21 ?_
    refine ev_go kc_228 4 (i' := 81) (L' := [some (.ref 215), some (.int l1), some (.int l2), some (.int s0)]) (st' := [.int (0 : Int32), .ref 216, .int (0 : Int32), .ref 216]) (M' := M21) rfl ?_
    refine ev_ia kc_228 rfl rfl rfl ?_
    refine ev_go kc_228 2 (i' := 84) (L' := [some (.ref 215), some (.int l1), some (.int l2), some (.int s0)]) (st' := [.int ((M21 216 (ix (0 : Int32))) + (1 : Int32)), .int (0 : Int32), .ref 216]) (M' := M21) rfl ?_
    obtain ⟨M23, hM23, h⟩ := o_wr h
    refine ev_is kc_228 rfl rfl rfl hM23 ?_
    refine ev_go kc_228 1 (i' := 86) (L' := [some (.ref 215), some (.int l1), some (.int l2), some (.int s0)]) (st' := [.int (1 : Int32)]) (M' := M23) rfl ?_
    obtain rfl := Option.some.inj h
    rw [hk]
    exact ev_ret kc_228 rfl rfl rfl
  · refine ev_goF kc_228 3 (t := 28) (e := 26) (L' := [some (.ref 215), some (.int l1), some (.int l2), some (.int s0)]) (st' := []) rfl hb1 ?_
    refine ev_go kc_228 1 (i' := 27) (L' := [some (.ref 215), some (.int l1), some (.int l2), some (.int s0)]) (st' := [.int (0 : Int32)]) (M' := M0) rfl ?_
    obtain rfl := Option.some.inj h
    rw [hk]
    exact ev_ret kc_228 rfl rfl rfl
def f_X12_readPerson  (M0 : mM) : Option (Bool × mM) :=
  b1 (f_X12_people M0) (fun v24 => bif decide (¬ v24 = (8 : Int32)) then (b2 (f_X12_after 401 (1 : Int32) (99 : Int32) M0) (fun v26 M26 => bif decide (0 ≤ v26) then (b2 (f_X12_after 402 (0 : Int32) (999 : Int32) M26) (fun v28 M28 => f_X12_readPerson_23 v24 v26 v28 M28)) else (f_X12_readPerson_23 v24 v26 (-1 : Int32) M26))) else (some (false, M0)))
set_option maxRecDepth 8000 in
theorem c_X12_readPerson  {M0 : mM} {out : (Bool × mM)} (h : f_X12_readPerson M0 = some out) : Cs (10) 228 [.ref 215] M0 (emW eB out) := by
  generalize hk : emW eB out = R
  replace hk := hk.symm
  unfold f_X12_readPerson at h
  show Ev (10) 228 0 [some (.ref 215), none, none, none] [] M0 R
  refine ev_go kc_228 1 (i' := 1) (L' := [some (.ref 215), none, none, none]) (st' := [.ref 215]) (M' := M0) rfl ?_
  obtain ⟨v24, hc24, h⟩ := o_b1 h
  refine ev_cl0 (ins := .invokevirtual 71) kc_228 rfl rfl (a := 190) (as := [.ref 215]) (rest := []) rfl rfl (Cs.deep (c_X12_people (M0 := M0) hc24) (by decide)) ?_
  rcases o_bif h with ⟨hb25, h⟩ | ⟨hb25, h⟩
  · refine ev_goT kc_228 4 (t := 8) (e := 6) (L' := [some (.ref 215), some (.int v24), none, none]) (st' := []) rfl hb25 ?_
    refine ev_go kc_228 4 (i' := 12) (L' := [some (.ref 215), some (.int v24), none, none]) (st' := [.int (99 : Int32), .int (1 : Int32), .ref 401, .ref 215]) (M' := M0) rfl ?_
    obtain ⟨v26, M26, hc26, h⟩ := o_b2 h
    refine ev_cl0 (ins := .invokevirtual 190) kc_228 rfl rfl (a := 224) (as := [.ref 215, .ref 401, .int (1 : Int32), .int (99 : Int32)]) (rest := []) rfl rfl (Cs.deep (c_X12_after hc26) (by decide)) ?_
    rcases o_bif h with ⟨hb27, h⟩ | ⟨hb27, h⟩
    · refine ev_goT kc_228 3 (t := 18) (e := 16) (L' := [some (.ref 215), some (.int v24), some (.int v26), none]) (st' := []) rfl hb27 ?_
      refine ev_go kc_228 4 (i' := 22) (L' := [some (.ref 215), some (.int v24), some (.int v26), none]) (st' := [.int (999 : Int32), .int (0 : Int32), .ref 402, .ref 215]) (M' := M26) rfl ?_
      obtain ⟨v28, M28, hc28, h⟩ := o_b2 h
      refine ev_cl0 (ins := .invokevirtual 190) kc_228 rfl rfl (a := 224) (as := [.ref 215, .ref 402, .int (0 : Int32), .int (999 : Int32)]) (rest := []) rfl rfl (Cs.deep (c_X12_after hc28) (by decide)) ?_
      exact Ev.forget (mLe.kp (mLe.kp (mLe.kp (mLe.sk mLe.nl)))) (e_X12_readPerson_23  h hk)
    · refine ev_goF kc_228 3 (t := 18) (e := 16) (L' := [some (.ref 215), some (.int v24), some (.int v26), none]) (st' := []) rfl hb27 ?_
      refine ev_go kc_228 2 (i' := 23) (L' := [some (.ref 215), some (.int v24), some (.int v26), none]) (st' := [.int (-1 : Int32)]) (M' := M26) rfl ?_
      exact Ev.forget (mLe.kp (mLe.kp (mLe.kp (mLe.sk mLe.nl)))) (e_X12_readPerson_23  h hk)
  · refine ev_goF kc_228 4 (t := 8) (e := 6) (L' := [some (.ref 215), some (.int v24), none, none]) (st' := []) rfl hb25 ?_
    refine ev_go kc_228 1 (i' := 7) (L' := [some (.ref 215), some (.int v24), none, none]) (st' := [.int (0 : Int32)]) (M' := M0) rfl ?_
    obtain rfl := Option.some.inj h
    rw [hk]
    exact ev_ret kc_228 rfl rfl rfl
/-- WakeTowerModel.lettersOf(I)I: 229, W -/
theorem kc_229 : mKc 229 = k_X12_lettersOf := rfl
def f_X12_lettersOf_46 (l1 : Int32) (l2 : Int32) (l4 : Int32) (l5 : Int32) (s0 : Bool) (M0 : mM) : Option ((Int32 × mM) ⊕ (Int32 × Int32 × Int32)) :=
  bif s0 then (some (.inr ((l2 ||| ((1 : Int32) <<< (l5 &&& (31 : Int32)))), (mB s0), (l4 + (1 : Int32))))) else (some (.inr ((l2 ||| (0 : Int32)), (mB s0), (l4 + (1 : Int32)))))
set_option maxRecDepth 8000 in
theorem e_X12_lettersOf_46 {l1 : Int32} {l2 : Int32} {l4 : Int32} {l5 : Int32} {s0 : Bool} {M0 : mM} {R : mZ} {out : ((Int32 × mM) ⊕ (Int32 × Int32 × Int32))}  (h : f_X12_lettersOf_46 l1 l2 l4 l5 s0 M0 = some out) (hk : (∀ s' : Int32 × Int32 × Int32, out = .inr s' → Ev (3) 229 16 [some (.ref 215), some (.int l1), some (.int s'.1), some (.int s'.2.1), some (.int s'.2.2), none] [] M0 R) ∧ (∀ e1 : (Int32 × mM), out = .inl e1 → R = emW eI e1)) : Ev (3) 229 46 [some (.ref 215), some (.int l1), some (.int l2), none, some (.int l4), some (.int l5)] [.int (mB s0)] M0 R := by
  unfold f_X12_lettersOf_46 at h
  rcases o_bif h with ⟨hb1, h⟩ | ⟨hb1, h⟩
  · refine ev_goF kc_229 4 (t := 54) (e := 50) (L' := [some (.ref 215), some (.int l1), some (.int l2), some (.int (mB s0)), some (.int l4), some (.int l5)]) (st' := [.int l2]) rfl (mB_e0f hb1) ?_
    refine ev_go kc_229 8 (i' := 16) (L' := [some (.ref 215), some (.int l1), some (.int (l2 ||| ((1 : Int32) <<< (l5 &&& (31 : Int32))))), some (.int (mB s0)), some (.int (l4 + (1 : Int32))), some (.int l5)]) (st' := []) (M' := M0) rfl ?_
    obtain rfl := Option.some.inj h
    exact Ev.forget (mLe.kp (mLe.kp (mLe.kp (mLe.kp (mLe.kp (mLe.sk mLe.nl)))))) (hk.1 ((l2 ||| ((1 : Int32) <<< (l5 &&& (31 : Int32)))), (mB s0), (l4 + (1 : Int32))) rfl)
  · refine ev_goT kc_229 4 (t := 54) (e := 50) (L' := [some (.ref 215), some (.int l1), some (.int l2), some (.int (mB s0)), some (.int l4), some (.int l5)]) (st' := [.int l2]) rfl (mB_e0t hb1) ?_
    refine ev_go kc_229 5 (i' := 16) (L' := [some (.ref 215), some (.int l1), some (.int (l2 ||| (0 : Int32))), some (.int (mB s0)), some (.int (l4 + (1 : Int32))), some (.int l5)]) (st' := []) (M' := M0) rfl ?_
    obtain rfl := Option.some.inj h
    exact Ev.forget (mLe.kp (mLe.kp (mLe.kp (mLe.kp (mLe.kp (mLe.sk mLe.nl)))))) (hk.1 ((l2 ||| (0 : Int32)), (mB s0), (l4 + (1 : Int32))) rfl)
def f_X12_lettersOf_45 (l1 : Int32) (l2 : Int32) (l4 : Int32) (l5 : Int32) (M0 : mM) : Option ((Int32 × mM) ⊕ (Int32 × Int32 × Int32)) :=
  f_X12_lettersOf_46 l1 l2 l4 l5 false M0
set_option maxRecDepth 8000 in
theorem e_X12_lettersOf_45 {l1 : Int32} {l2 : Int32} {l4 : Int32} {l5 : Int32} {M0 : mM} {R : mZ} {out : ((Int32 × mM) ⊕ (Int32 × Int32 × Int32))}  (h : f_X12_lettersOf_45 l1 l2 l4 l5 M0 = some out) (hk : (∀ s' : Int32 × Int32 × Int32, out = .inr s' → Ev (3) 229 16 [some (.ref 215), some (.int l1), some (.int s'.1), some (.int s'.2.1), some (.int s'.2.2), none] [] M0 R) ∧ (∀ e1 : (Int32 × mM), out = .inl e1 → R = emW eI e1)) : Ev (3) 229 45 [some (.ref 215), some (.int l1), some (.int l2), none, some (.int l4), some (.int l5)] [] M0 R := by
  unfold f_X12_lettersOf_45 at h
  refine ev_go kc_229 1 (i' := 46) (L' := [some (.ref 215), some (.int l1), some (.int l2), none, some (.int l4), some (.int l5)]) (st' := [.int (0 : Int32)]) (M' := M0) rfl ?_
  exact Ev.forget (mLe.kp (mLe.kp (mLe.kp (mLe.sk (mLe.kp (mLe.kp mLe.nl)))))) (e_X12_lettersOf_46  h hk)
def f_X12_lettersOf_59 (l2 : Int32) (l3 : Int32) (M0 : mM) : Option (Int32 × mM) :=
  bif decide (l3 = 0) then (some ((-1 : Int32), M0)) else (some (l2, M0))
set_option maxRecDepth 8000 in
theorem e_X12_lettersOf_59 {l2 : Int32} {l3 : Int32} {M0 : mM} {R : mZ} {out : (Int32 × mM)}  (h : f_X12_lettersOf_59 l2 l3 M0 = some out) (hk : R = emW eI out) : Ev (3) 229 59 [none, none, some (.int l2), some (.int l3), none, none] [] M0 R := by
  unfold f_X12_lettersOf_59 at h
  rcases o_bif h with ⟨hb2, h⟩ | ⟨hb2, h⟩
  · refine ev_goT kc_229 2 (t := 63) (e := 61) (L' := [none, none, some (.int l2), some (.int l3), none, none]) (st' := []) rfl hb2 ?_
    refine ev_go kc_229 1 (i' := 64) (L' := [none, none, some (.int l2), some (.int l3), none, none]) (st' := [.int (-1 : Int32)]) (M' := M0) rfl ?_
    obtain rfl := Option.some.inj h
    rw [hk]
    exact ev_ret kc_229 rfl rfl rfl
  · refine ev_goF kc_229 2 (t := 63) (e := 61) (L' := [none, none, some (.int l2), some (.int l3), none, none]) (st' := []) rfl hb2 ?_
    refine ev_go kc_229 2 (i' := 64) (L' := [none, none, some (.int l2), some (.int l3), none, none]) (st' := [.int l2]) (M' := M0) rfl ?_
    obtain rfl := Option.some.inj h
    rw [hk]
    exact ev_ret kc_229 rfl rfl rfl
def f_X12_lettersOf_16 (l1 : Int32) (l2 : Int32) (l3 : Int32) (l4 : Int32) (M0 : mM) : Option ((Int32 × mM) ⊕ (Int32 × Int32 × Int32)) :=
  bif decide ((M0 215 14) ≤ l4) then (b1 (f_X12_lettersOf_59 l2 l3 M0) (fun r4 => some (.inl r4))) else (bif decide (l3 = 0) then (b1 (f_X12_lettersOf_59 l2 l3 M0) (fun r6 => some (.inl r6))) else (gd (mIn l4 400) (b1 (f_X12_people M0) (fun v8 => bif decide (v8 ≤ ((M0 223 (ix l4)) - (97 : Int32))) then (f_X12_lettersOf_45 l1 l2 l4 ((M0 223 (ix l4)) - (97 : Int32)) M0) else (bif (f_X12_has l2 ((M0 223 (ix l4)) - (97 : Int32))) then (f_X12_lettersOf_45 l1 l2 l4 ((M0 223 (ix l4)) - (97 : Int32)) M0) else (b1 (f_X12_of ((M0 223 (ix l4)) - (97 : Int32)) (5 : Int32) M0) (fun v12 => bif decide (¬ v12 = l1) then (f_X12_lettersOf_45 l1 l2 l4 ((M0 223 (ix l4)) - (97 : Int32)) M0) else (f_X12_lettersOf_46 l1 l2 l4 ((M0 223 (ix l4)) - (97 : Int32)) true M0))))))))
set_option maxRecDepth 8000 in
theorem e_X12_lettersOf_16 {l1 : Int32} {l2 : Int32} {l3 : Int32} {l4 : Int32} {M0 : mM} {R : mZ} {out : ((Int32 × mM) ⊕ (Int32 × Int32 × Int32))}  (h : f_X12_lettersOf_16 l1 l2 l3 l4 M0 = some out) (hk : (∀ s' : Int32 × Int32 × Int32, out = .inr s' → Ev (3) 229 16 [some (.ref 215), some (.int l1), some (.int s'.1), some (.int s'.2.1), some (.int s'.2.2), none] [] M0 R) ∧ (∀ e1 : (Int32 × mM), out = .inl e1 → R = emW eI e1)) : Ev (3) 229 16 [some (.ref 215), some (.int l1), some (.int l2), some (.int l3), some (.int l4), none] [] M0 R := by
  unfold f_X12_lettersOf_16 at h
  rcases o_bif h with ⟨hb3, h⟩ | ⟨hb3, h⟩
  · refine ev_goT kc_229 4 (t := 59) (e := 20) (L' := [some (.ref 215), some (.int l1), some (.int l2), some (.int l3), some (.int l4), none]) (st' := []) rfl hb3 ?_
    obtain ⟨r4, hr4, h⟩ := o_b1 h
    obtain rfl := Option.some.inj h
    exact Ev.forget (mLe.sk (mLe.sk (mLe.kp (mLe.kp (mLe.sk (mLe.sk mLe.nl)))))) (e_X12_lettersOf_59  hr4 (hk.2 _ rfl))
  · refine ev_goF kc_229 4 (t := 59) (e := 20) (L' := [some (.ref 215), some (.int l1), some (.int l2), some (.int l3), some (.int l4), none]) (st' := []) rfl hb3 ?_
    rcases o_bif h with ⟨hb5, h⟩ | ⟨hb5, h⟩
    · refine ev_goT kc_229 2 (t := 59) (e := 22) (L' := [some (.ref 215), some (.int l1), some (.int l2), some (.int l3), some (.int l4), none]) (st' := []) rfl hb5 ?_
      obtain ⟨r6, hr6, h⟩ := o_b1 h
      obtain rfl := Option.some.inj h
      exact Ev.forget (mLe.sk (mLe.sk (mLe.kp (mLe.kp (mLe.sk (mLe.sk mLe.nl)))))) (e_X12_lettersOf_59  hr6 (hk.2 _ rfl))
    · refine ev_goF kc_229 2 (t := 59) (e := 22) (L' := [some (.ref 215), some (.int l1), some (.int l2), some (.int l3), some (.int l4), none]) (st' := []) rfl hb5 ?_
      refine ev_go kc_229 3 (i' := 25) (L' := [some (.ref 215), some (.int l1), some (.int l2), some (.int l3), some (.int l4), none]) (st' := [.int l4, .ref 223]) (M' := M0) rfl ?_
      obtain ⟨hg7, h⟩ := o_gd h
      refine ev_ba kc_229 rfl (n := 400) (Or.inl rfl) hg7 ?_
      refine ev_go kc_229 5 (i' := 31) (L' := [some (.ref 215), some (.int l1), some (.int l2), some (.int l3), some (.int l4), some (.int ((M0 223 (ix l4)) - (97 : Int32)))]) (st' := [.ref 215, .int ((M0 223 (ix l4)) - (97 : Int32))]) (M' := M0) rfl ?_
      obtain ⟨v8, hc8, h⟩ := o_b1 h
      refine ev_cl0 (ins := .invokevirtual 71) kc_229 rfl rfl (a := 190) (as := [.ref 215]) (rest := [.int ((M0 223 (ix l4)) - (97 : Int32))]) rfl rfl (Cs.deep (c_X12_people (M0 := M0) hc8) (by decide)) ?_
      rcases o_bif h with ⟨hb9, h⟩ | ⟨hb9, h⟩
      · refine ev_goT kc_229 1 (t := 45) (e := 33) (L' := [some (.ref 215), some (.int l1), some (.int l2), some (.int l3), some (.int l4), some (.int ((M0 223 (ix l4)) - (97 : Int32)))]) (st' := []) rfl hb9 ?_
        exact Ev.forget (mLe.kp (mLe.kp (mLe.kp (mLe.sk (mLe.kp (mLe.kp mLe.nl)))))) (e_X12_lettersOf_45  h hk)
      · refine ev_goF kc_229 1 (t := 45) (e := 33) (L' := [some (.ref 215), some (.int l1), some (.int l2), some (.int l3), some (.int l4), some (.int ((M0 223 (ix l4)) - (97 : Int32)))]) (st' := []) rfl hb9 ?_
        refine ev_go kc_229 2 (i' := 35) (L' := [some (.ref 215), some (.int l1), some (.int l2), some (.int l3), some (.int l4), some (.int ((M0 223 (ix l4)) - (97 : Int32)))]) (st' := [.int ((M0 223 (ix l4)) - (97 : Int32)), .int l2]) (M' := M0) rfl ?_
        refine ev_cl0 (ins := .invokestatic 106) kc_229 rfl rfl (a := 183) (as := [.int l2, .int ((M0 223 (ix l4)) - (97 : Int32))]) (rest := []) rfl rfl (Cs.deep (c_X12_has (M0 := M0)) (by decide)) ?_
        rcases o_bif h with ⟨hb11, h⟩ | ⟨hb11, h⟩
        · refine ev_goT kc_229 1 (t := 45) (e := 37) (L' := [some (.ref 215), some (.int l1), some (.int l2), some (.int l3), some (.int l4), some (.int ((M0 223 (ix l4)) - (97 : Int32)))]) (st' := []) rfl (mB_n0t hb11) ?_
          exact Ev.forget (mLe.kp (mLe.kp (mLe.kp (mLe.sk (mLe.kp (mLe.kp mLe.nl)))))) (e_X12_lettersOf_45  h hk)
        · refine ev_goF kc_229 1 (t := 45) (e := 37) (L' := [some (.ref 215), some (.int l1), some (.int l2), some (.int l3), some (.int l4), some (.int ((M0 223 (ix l4)) - (97 : Int32)))]) (st' := []) rfl (mB_n0f hb11) ?_
          refine ev_go kc_229 3 (i' := 40) (L' := [some (.ref 215), some (.int l1), some (.int l2), some (.int l3), some (.int l4), some (.int ((M0 223 (ix l4)) - (97 : Int32)))]) (st' := [.int (5 : Int32), .int ((M0 223 (ix l4)) - (97 : Int32)), .ref 215]) (M' := M0) rfl ?_
          obtain ⟨v12, hc12, h⟩ := o_b1 h
          refine ev_cl0 (ins := .invokevirtual 79) kc_229 rfl rfl (a := 193) (as := [.ref 215, .int ((M0 223 (ix l4)) - (97 : Int32)), .int (5 : Int32)]) (rest := []) rfl rfl (Cs.deep (c_X12_of (M0 := M0) hc12) (by decide)) ?_
          rcases o_bif h with ⟨hb13, h⟩ | ⟨hb13, h⟩
          · refine ev_goT kc_229 2 (t := 45) (e := 43) (L' := [some (.ref 215), some (.int l1), some (.int l2), some (.int l3), some (.int l4), some (.int ((M0 223 (ix l4)) - (97 : Int32)))]) (st' := []) rfl hb13 ?_
            exact Ev.forget (mLe.kp (mLe.kp (mLe.kp (mLe.sk (mLe.kp (mLe.kp mLe.nl)))))) (e_X12_lettersOf_45  h hk)
          · refine ev_goF kc_229 2 (t := 45) (e := 43) (L' := [some (.ref 215), some (.int l1), some (.int l2), some (.int l3), some (.int l4), some (.int ((M0 223 (ix l4)) - (97 : Int32)))]) (st' := []) rfl hb13 ?_
            refine ev_go kc_229 2 (i' := 46) (L' := [some (.ref 215), some (.int l1), some (.int l2), some (.int l3), some (.int l4), some (.int ((M0 223 (ix l4)) - (97 : Int32)))]) (st' := [.int (1 : Int32)]) (M' := M0) rfl ?_
            exact Ev.forget (mLe.kp (mLe.kp (mLe.kp (mLe.sk (mLe.kp (mLe.kp mLe.nl)))))) (e_X12_lettersOf_46  h hk)
def f_X12_lettersOf_l16 (l1 : Int32) (l2 : Int32) (l3 : Int32) (l4 : Int32) (M0 : mM) : Option (Int32 × mM) :=
  wh 100000 (fun s : Int32 × Int32 × Int32 => f_X12_lettersOf_16 l1 s.1 s.2.1 s.2.2 M0) (l2, l3, l4)
theorem e_X12_lettersOf_l16 {l1 : Int32} {l2 : Int32} {l3 : Int32} {l4 : Int32} {M0 : mM} {R : mZ} {out : (Int32 × mM)}  (h : f_X12_lettersOf_l16 l1 l2 l3 l4 M0 = some out) (hk : R = emW eI out) : Ev (3) 229 16 [some (.ref 215), some (.int l1), some (.int l2), some (.int l3), some (.int l4), none] [] M0 R := by
  unfold f_X12_lettersOf_l16 at h
  exact wh_ev (P := fun s : Int32 × Int32 × Int32 => Ev (3) 229 16 [some (.ref 215), some (.int l1), some (.int s.1), some (.int s.2.1), some (.int s.2.2), none] [] M0 R) (Q := fun e : (Int32 × mM) => R = emW eI e) (fun s o hb h1 h2 => e_X12_lettersOf_16  hb ⟨h1, h2⟩) 100000 _ _ h hk
def f_X12_lettersOf (p1 : Int32) (M0 : mM) : Option (Int32 × mM) :=
  b2 (f_X12_letters M0) (fun v14 M14 => bif decide ((M14 215 14) ≤ (M14 215 16)) then (f_X12_lettersOf_l16 p1 (0 : Int32) (0 : Int32) (M14 215 16) M14) else (f_X12_lettersOf_l16 p1 (0 : Int32) (1 : Int32) (M14 215 16) M14))
set_option maxRecDepth 8000 in
theorem c_X12_lettersOf {p1 : Int32} {M0 : mM} {out : (Int32 × mM)} (h : f_X12_lettersOf p1 M0 = some out) : Cs (3) 229 [.ref 215, .int p1] M0 (emW eI out) := by
  generalize hk : emW eI out = R
  replace hk := hk.symm
  unfold f_X12_lettersOf at h
  show Ev (3) 229 0 [some (.ref 215), some (.int p1), none, none, none, none] [] M0 R
  refine ev_go kc_229 1 (i' := 1) (L' := [some (.ref 215), some (.int p1), none, none, none, none]) (st' := [.ref 215]) (M' := M0) rfl ?_
  obtain ⟨v14, M14, hc14, h⟩ := o_b2 h
  refine ev_cl0 (ins := .invokevirtual 178) kc_229 rfl rfl (a := 219) (as := [.ref 215]) (rest := []) rfl rfl (Cs.deep (c_X12_letters hc14) (by decide)) ?_
  rcases o_bif h with ⟨hb15, h⟩ | ⟨hb15, h⟩
  · refine ev_goT kc_229 7 (t := 11) (e := 9) (L' := [some (.ref 215), some (.int p1), some (.int (0 : Int32)), none, none, none]) (st' := []) rfl hb15 ?_
    refine ev_go kc_229 5 (i' := 16) (L' := [some (.ref 215), some (.int p1), some (.int (0 : Int32)), some (.int (0 : Int32)), some (.int (M14 215 16)), none]) (st' := []) (M' := M14) rfl ?_
    exact Ev.forget (mLe.kp (mLe.kp (mLe.kp (mLe.kp (mLe.kp (mLe.sk mLe.nl)))))) (e_X12_lettersOf_l16  h hk)
  · refine ev_goF kc_229 7 (t := 11) (e := 9) (L' := [some (.ref 215), some (.int p1), some (.int (0 : Int32)), none, none, none]) (st' := []) rfl hb15 ?_
    refine ev_go kc_229 6 (i' := 16) (L' := [some (.ref 215), some (.int p1), some (.int (0 : Int32)), some (.int (1 : Int32)), some (.int (M14 215 16)), none]) (st' := []) (M' := M14) rfl ?_
    exact Ev.forget (mLe.kp (mLe.kp (mLe.kp (mLe.kp (mLe.kp (mLe.sk mLe.nl)))))) (e_X12_lettersOf_l16  h hk)
/-- WakeTowerModel.readUp()Z: 230, W -/
theorem kc_230 : mKc 230 = k_X12_readUp := rfl
def f_X12_readUp_44 (l1 : Int32) (l2 : Int32) (l3 : Int32) (M0 : mM) : Option (Bool × mM) :=
  bif decide (0 ≤ l3) then (gd (mIn (f_X12_at l1 (5 : Int32)) 2122) (wr (mst M0 216 (ix (f_X12_at l1 (5 : Int32))) l2) (fun M3 => gd (mIn (f_X12_at l1 (6 : Int32)) 2122) (wr (mst M3 216 (ix (f_X12_at l1 (6 : Int32))) l3) (fun M6 => some (true, M6)))))) else (some (false, M0))
set_option maxRecDepth 8000 in
theorem e_X12_readUp_44 {l1 : Int32} {l2 : Int32} {l3 : Int32} {M0 : mM} {R : mZ} {out : (Bool × mM)}  (h : f_X12_readUp_44 l1 l2 l3 M0 = some out) (hk : R = emW eB out) : Ev (10) 230 44 [some (.ref 215), some (.int l1), some (.int l2), some (.int l3)] [] M0 R := by
  unfold f_X12_readUp_44 at h
  rcases o_bif h with ⟨hb1, h⟩ | ⟨hb1, h⟩
  · refine ev_goT kc_230 2 (t := 48) (e := 46) (L' := [some (.ref 215), some (.int l1), some (.int l2), some (.int l3)]) (st' := []) rfl hb1 ?_
    refine ev_go kc_230 4 (i' := 52) (L' := [some (.ref 215), some (.int l1), some (.int l2), some (.int l3)]) (st' := [.int (5 : Int32), .int l1, .ref 216]) (M' := M0) rfl ?_
    refine ev_cl0 (ins := .invokestatic 75) kc_230 rfl rfl (a := 192) (as := [.int l1, .int (5 : Int32)]) (rest := [.ref 216]) rfl rfl (Cs.deep (c_X12_at (M0 := M0)) (by decide)) ?_
    refine ev_go kc_230 1 (i' := 54) (L' := [some (.ref 215), some (.int l1), some (.int l2), some (.int l3)]) (st' := [.int l2, .int (f_X12_at l1 (5 : Int32)), .ref 216]) (M' := M0) rfl ?_
    obtain ⟨hg4, h⟩ := o_gd h
    obtain ⟨M3, hM3, h⟩ := o_wr h
    refine ev_is kc_230 rfl rfl hg4 hM3 ?_
    refine ev_go kc_230 4 (i' := 59) (L' := [some (.ref 215), some (.int l1), some (.int l2), some (.int l3)]) (st' := [.int (6 : Int32), .int l1, .ref 216]) (M' := M3) rfl ?_
    refine ev_cl0 (ins := .invokestatic 75) kc_230 rfl rfl (a := 192) (as := [.int l1, .int (6 : Int32)]) (rest := [.ref 216]) rfl rfl (Cs.deep (c_X12_at (M0 := M3)) (by decide)) ?_
    refine ev_go kc_230 1 (i' := 61) (L' := [some (.ref 215), some (.int l1), some (.int l2), some (.int l3)]) (st' := [.int l3, .int (f_X12_at l1 (6 : Int32)), .ref 216]) (M' := M3) rfl ?_
    obtain ⟨hg7, h⟩ := o_gd h
    obtain ⟨M6, hM6, h⟩ := o_wr h
    refine ev_is kc_230 rfl rfl hg7 hM6 ?_
    refine ev_go kc_230 1 (i' := 63) (L' := [some (.ref 215), some (.int l1), some (.int l2), some (.int l3)]) (st' := [.int (1 : Int32)]) (M' := M6) rfl ?_
    obtain rfl := Option.some.inj h
    rw [hk]
    exact ev_ret kc_230 rfl rfl rfl
  · refine ev_goF kc_230 2 (t := 48) (e := 46) (L' := [some (.ref 215), some (.int l1), some (.int l2), some (.int l3)]) (st' := []) rfl hb1 ?_
    refine ev_go kc_230 1 (i' := 47) (L' := [some (.ref 215), some (.int l1), some (.int l2), some (.int l3)]) (st' := [.int (0 : Int32)]) (M' := M0) rfl ?_
    obtain rfl := Option.some.inj h
    rw [hk]
    exact ev_ret kc_230 rfl rfl rfl
def f_X12_readUp_43 (l1 : Int32) (l2 : Int32) (s0 : Int32) (M0 : mM) : Option (Bool × mM) :=
  f_X12_readUp_44 l1 l2 s0 M0
set_option maxRecDepth 8000 in
theorem e_X12_readUp_43 {l1 : Int32} {l2 : Int32} {s0 : Int32} {M0 : mM} {R : mZ} {out : (Bool × mM)}  (h : f_X12_readUp_43 l1 l2 s0 M0 = some out) (hk : R = emW eB out) : Ev (10) 230 43 [some (.ref 215), some (.int l1), some (.int l2), none] [.int s0] M0 R := by
  unfold f_X12_readUp_43 at h
  refine ev_go kc_230 1 (i' := 44) (L' := [some (.ref 215), some (.int l1), some (.int l2), some (.int s0)]) (st' := []) (M' := M0) rfl ?_
  exact Ev.forget (mLe.kp (mLe.kp (mLe.kp (mLe.kp mLe.nl)))) (e_X12_readUp_44  h hk)
def f_X12_readUp  (M0 : mM) : Option (Bool × mM) :=
  b1 (f_X12_people M0) (fun v8 => b2 (f_X12_number (0 : Int32) (v8 - (1 : Int32)) M0) (fun v9 M9 => bif decide (v9 < 0) then (some (false, M9)) else (b1 (f_X12_isUp v9 M9) (fun v11 => bif v11 then (some (false, M9)) else (b2 (f_X12_after 404 (0 : Int32) (4 : Int32) M9) (fun v13 M13 => bif decide (0 ≤ v13) then (bif decide (v13 ≤ 0) then (f_X12_readUp_44 v9 v13 (0 : Int32) M13) else (b2 (f_X12_letters M13) (fun v16 M16 => b1 (f_X12_isWord 405 M16) (fun v17 => bif v17 then (b2 (f_X12_lettersOf (v13 - (1 : Int32)) M16) (fun v19 M19 => f_X12_readUp_43 v9 v13 v19 M19)) else (f_X12_readUp_43 v9 v13 (-1 : Int32) M16))))) else (some (false, M13))))))))
set_option maxRecDepth 8000 in
theorem c_X12_readUp  {M0 : mM} {out : (Bool × mM)} (h : f_X12_readUp M0 = some out) : Cs (10) 230 [.ref 215] M0 (emW eB out) := by
  generalize hk : emW eB out = R
  replace hk := hk.symm
  unfold f_X12_readUp at h
  show Ev (10) 230 0 [some (.ref 215), none, none, none] [] M0 R
  refine ev_go kc_230 3 (i' := 3) (L' := [some (.ref 215), none, none, none]) (st' := [.ref 215, .int (0 : Int32), .ref 215]) (M' := M0) rfl ?_
  obtain ⟨v8, hc8, h⟩ := o_b1 h
  refine ev_cl0 (ins := .invokevirtual 71) kc_230 rfl rfl (a := 190) (as := [.ref 215]) (rest := [.int (0 : Int32), .ref 215]) rfl rfl (Cs.deep (c_X12_people (M0 := M0) hc8) (by decide)) ?_
  refine ev_go kc_230 2 (i' := 6) (L' := [some (.ref 215), none, none, none]) (st' := [.int (v8 - (1 : Int32)), .int (0 : Int32), .ref 215]) (M' := M0) rfl ?_
  obtain ⟨v9, M9, hc9, h⟩ := o_b2 h
  refine ev_cl0 (ins := .invokevirtual 185) kc_230 rfl rfl (a := 223) (as := [.ref 215, .int (0 : Int32), .int (v8 - (1 : Int32))]) (rest := []) rfl rfl (Cs.deep (c_X12_number hc9) (by decide)) ?_
  rcases o_bif h with ⟨hb10, h⟩ | ⟨hb10, h⟩
  · refine ev_goT kc_230 3 (t := 14) (e := 10) (L' := [some (.ref 215), some (.int v9), none, none]) (st' := []) rfl hb10 ?_
    refine ev_go kc_230 1 (i' := 15) (L' := [some (.ref 215), some (.int v9), none, none]) (st' := [.int (0 : Int32)]) (M' := M9) rfl ?_
    obtain rfl := Option.some.inj h
    rw [hk]
    exact ev_ret kc_230 rfl rfl rfl
  · refine ev_goF kc_230 3 (t := 14) (e := 10) (L' := [some (.ref 215), some (.int v9), none, none]) (st' := []) rfl hb10 ?_
    refine ev_go kc_230 2 (i' := 12) (L' := [some (.ref 215), some (.int v9), none, none]) (st' := [.int v9, .ref 215]) (M' := M9) rfl ?_
    obtain ⟨v11, hc11, h⟩ := o_b1 h
    refine ev_cl0 (ins := .invokevirtual 82) kc_230 rfl rfl (a := 194) (as := [.ref 215, .int v9]) (rest := []) rfl rfl (Cs.deep (c_X12_isUp (M0 := M9) hc11) (by decide)) ?_
    rcases o_bif h with ⟨hb12, h⟩ | ⟨hb12, h⟩
    · refine ev_goF kc_230 1 (t := 16) (e := 14) (L' := [some (.ref 215), some (.int v9), none, none]) (st' := []) rfl (mB_e0f hb12) ?_
      refine ev_go kc_230 1 (i' := 15) (L' := [some (.ref 215), some (.int v9), none, none]) (st' := [.int (0 : Int32)]) (M' := M9) rfl ?_
      obtain rfl := Option.some.inj h
      rw [hk]
      exact ev_ret kc_230 rfl rfl rfl
    · refine ev_goT kc_230 1 (t := 16) (e := 14) (L' := [some (.ref 215), some (.int v9), none, none]) (st' := []) rfl (mB_e0t hb12) ?_
      refine ev_go kc_230 4 (i' := 20) (L' := [some (.ref 215), some (.int v9), none, none]) (st' := [.int (4 : Int32), .int (0 : Int32), .ref 404, .ref 215]) (M' := M9) rfl ?_
      obtain ⟨v13, M13, hc13, h⟩ := o_b2 h
      refine ev_cl0 (ins := .invokevirtual 190) kc_230 rfl rfl (a := 224) (as := [.ref 215, .ref 404, .int (0 : Int32), .int (4 : Int32)]) (rest := []) rfl rfl (Cs.deep (c_X12_after hc13) (by decide)) ?_
      rcases o_bif h with ⟨hb14, h⟩ | ⟨hb14, h⟩
      · refine ev_goT kc_230 3 (t := 26) (e := 24) (L' := [some (.ref 215), some (.int v9), some (.int v13), none]) (st' := []) rfl hb14 ?_
        rcases o_bif h with ⟨hb15, h⟩ | ⟨hb15, h⟩
        · refine ev_goT kc_230 4 (t := 44) (e := 30) (L' := [some (.ref 215), some (.int v9), some (.int v13), some (.int (0 : Int32))]) (st' := []) rfl hb15 ?_
          exact Ev.forget (mLe.kp (mLe.kp (mLe.kp (mLe.kp mLe.nl)))) (e_X12_readUp_44  h hk)
        · refine ev_goF kc_230 4 (t := 44) (e := 30) (L' := [some (.ref 215), some (.int v9), some (.int v13), some (.int (0 : Int32))]) (st' := []) rfl hb15 ?_
          refine ev_go kc_230 1 (i' := 31) (L' := [some (.ref 215), some (.int v9), some (.int v13), some (.int (0 : Int32))]) (st' := [.ref 215]) (M' := M13) rfl ?_
          obtain ⟨v16, M16, hc16, h⟩ := o_b2 h
          refine ev_cl0 (ins := .invokevirtual 178) kc_230 rfl rfl (a := 219) (as := [.ref 215]) (rest := []) rfl rfl (Cs.deep (c_X12_letters hc16) (by decide)) ?_
          refine ev_go kc_230 2 (i' := 34) (L' := [some (.ref 215), some (.int v9), some (.int v13), some (.int (0 : Int32))]) (st' := [.ref 405, .ref 215]) (M' := M16) rfl ?_
          obtain ⟨v17, hc17, h⟩ := o_b1 h
          refine ev_cl0 (ins := .invokevirtual 181) kc_230 rfl rfl (a := 220) (as := [.ref 215, .ref 405]) (rest := []) rfl rfl (Cs.deep (c_X12_isWord (M0 := M16) hc17) (by decide)) ?_
          rcases o_bif h with ⟨hb18, h⟩ | ⟨hb18, h⟩
          · refine ev_goF kc_230 1 (t := 42) (e := 36) (L' := [some (.ref 215), some (.int v9), some (.int v13), some (.int (0 : Int32))]) (st' := []) rfl (mB_e0f hb18) ?_
            refine ev_go kc_230 4 (i' := 40) (L' := [some (.ref 215), some (.int v9), some (.int v13), some (.int (0 : Int32))]) (st' := [.int (v13 - (1 : Int32)), .ref 215]) (M' := M16) rfl ?_
            obtain ⟨v19, M19, hc19, h⟩ := o_b2 h
            refine ev_cl0 (ins := .invokevirtual 200) kc_230 rfl rfl (a := 229) (as := [.ref 215, .int (v13 - (1 : Int32))]) (rest := []) rfl rfl (Cs.deep (c_X12_lettersOf hc19) (by decide)) ?_
            refine ev_go kc_230 1 (i' := 43) (L' := [some (.ref 215), some (.int v9), some (.int v13), some (.int (0 : Int32))]) (st' := [.int v19]) (M' := M19) rfl ?_
            exact Ev.forget (mLe.kp (mLe.kp (mLe.kp (mLe.sk mLe.nl)))) (e_X12_readUp_43  h hk)
          · refine ev_goT kc_230 1 (t := 42) (e := 36) (L' := [some (.ref 215), some (.int v9), some (.int v13), some (.int (0 : Int32))]) (st' := []) rfl (mB_e0t hb18) ?_
            refine ev_go kc_230 1 (i' := 43) (L' := [some (.ref 215), some (.int v9), some (.int v13), some (.int (0 : Int32))]) (st' := [.int (-1 : Int32)]) (M' := M16) rfl ?_
            exact Ev.forget (mLe.kp (mLe.kp (mLe.kp (mLe.sk mLe.nl)))) (e_X12_readUp_43  h hk)
      · refine ev_goF kc_230 3 (t := 26) (e := 24) (L' := [some (.ref 215), some (.int v9), some (.int v13), none]) (st' := []) rfl hb14 ?_
        refine ev_go kc_230 1 (i' := 25) (L' := [some (.ref 215), some (.int v9), some (.int v13), none]) (st' := [.int (0 : Int32)]) (M' := M13) rfl ?_
        obtain rfl := Option.some.inj h
        rw [hk]
        exact ev_ret kc_230 rfl rfl rfl
/-- WakeTowerModel.readAsleep()Z: 231, W -/
theorem kc_231 : mKc 231 = k_X12_readAsleep := rfl
def f_X12_readAsleep  (M0 : mM) : Option (Bool × mM) :=
  b1 (f_X12_people M0) (fun v1 => b2 (f_X12_number (0 : Int32) (v1 - (1 : Int32)) M0) (fun v2 M2 => bif decide (v2 < 0) then (some (false, M2)) else (b1 (f_X12_isAsleep v2 M2) (fun v4 => bif v4 then (some (false, M2)) else (gd (mIn (f_X12_at v2 (3 : Int32)) 2122) (wr (mst M2 216 (ix (f_X12_at v2 (3 : Int32))) (1 : Int32)) (fun M7 => some (true, M7))))))))
set_option maxRecDepth 8000 in
theorem c_X12_readAsleep  {M0 : mM} {out : (Bool × mM)} (h : f_X12_readAsleep M0 = some out) : Cs (3) 231 [.ref 215] M0 (emW eB out) := by
  generalize hk : emW eB out = R
  replace hk := hk.symm
  unfold f_X12_readAsleep at h
  show Ev (3) 231 0 [some (.ref 215), none] [] M0 R
  refine ev_go kc_231 3 (i' := 3) (L' := [some (.ref 215), none]) (st' := [.ref 215, .int (0 : Int32), .ref 215]) (M' := M0) rfl ?_
  obtain ⟨v1, hc1, h⟩ := o_b1 h
  refine ev_cl0 (ins := .invokevirtual 71) kc_231 rfl rfl (a := 190) (as := [.ref 215]) (rest := [.int (0 : Int32), .ref 215]) rfl rfl (Cs.deep (c_X12_people (M0 := M0) hc1) (by decide)) ?_
  refine ev_go kc_231 2 (i' := 6) (L' := [some (.ref 215), none]) (st' := [.int (v1 - (1 : Int32)), .int (0 : Int32), .ref 215]) (M' := M0) rfl ?_
  obtain ⟨v2, M2, hc2, h⟩ := o_b2 h
  refine ev_cl0 (ins := .invokevirtual 185) kc_231 rfl rfl (a := 223) (as := [.ref 215, .int (0 : Int32), .int (v1 - (1 : Int32))]) (rest := []) rfl rfl (Cs.deep (c_X12_number hc2) (by decide)) ?_
  rcases o_bif h with ⟨hb3, h⟩ | ⟨hb3, h⟩
  · refine ev_goT kc_231 3 (t := 14) (e := 10) (L' := [some (.ref 215), some (.int v2)]) (st' := []) rfl hb3 ?_
    refine ev_go kc_231 1 (i' := 15) (L' := [some (.ref 215), some (.int v2)]) (st' := [.int (0 : Int32)]) (M' := M2) rfl ?_
    obtain rfl := Option.some.inj h
    rw [hk]
    exact ev_ret kc_231 rfl rfl rfl
  · refine ev_goF kc_231 3 (t := 14) (e := 10) (L' := [some (.ref 215), some (.int v2)]) (st' := []) rfl hb3 ?_
    refine ev_go kc_231 2 (i' := 12) (L' := [some (.ref 215), some (.int v2)]) (st' := [.int v2, .ref 215]) (M' := M2) rfl ?_
    obtain ⟨v4, hc4, h⟩ := o_b1 h
    refine ev_cl0 (ins := .invokevirtual 86) kc_231 rfl rfl (a := 195) (as := [.ref 215, .int v2]) (rest := []) rfl rfl (Cs.deep (c_X12_isAsleep (M0 := M2) hc4) (by decide)) ?_
    rcases o_bif h with ⟨hb5, h⟩ | ⟨hb5, h⟩
    · refine ev_goF kc_231 1 (t := 16) (e := 14) (L' := [some (.ref 215), some (.int v2)]) (st' := []) rfl (mB_e0f hb5) ?_
      refine ev_go kc_231 1 (i' := 15) (L' := [some (.ref 215), some (.int v2)]) (st' := [.int (0 : Int32)]) (M' := M2) rfl ?_
      obtain rfl := Option.some.inj h
      rw [hk]
      exact ev_ret kc_231 rfl rfl rfl
    · refine ev_goT kc_231 1 (t := 16) (e := 14) (L' := [some (.ref 215), some (.int v2)]) (st' := []) rfl (mB_e0t hb5) ?_
      refine ev_go kc_231 4 (i' := 20) (L' := [some (.ref 215), some (.int v2)]) (st' := [.int (3 : Int32), .int v2, .ref 216]) (M' := M2) rfl ?_
      refine ev_cl0 (ins := .invokestatic 75) kc_231 rfl rfl (a := 192) (as := [.int v2, .int (3 : Int32)]) (rest := [.ref 216]) rfl rfl (Cs.deep (c_X12_at (M0 := M2)) (by decide)) ?_
      refine ev_go kc_231 1 (i' := 22) (L' := [some (.ref 215), some (.int v2)]) (st' := [.int (1 : Int32), .int (f_X12_at v2 (3 : Int32)), .ref 216]) (M' := M2) rfl ?_
      obtain ⟨hg8, h⟩ := o_gd h
      obtain ⟨M7, hM7, h⟩ := o_wr h
      refine ev_is kc_231 rfl rfl hg8 hM7 ?_
      refine ev_go kc_231 1 (i' := 24) (L' := [some (.ref 215), some (.int v2)]) (st' := [.int (1 : Int32)]) (M' := M7) rfl ?_
      obtain rfl := Option.some.inj h
      rw [hk]
      exact ev_ret kc_231 rfl rfl rfl
/-- WakeTowerModel.readTowerLine()Z: 232, W -/
theorem kc_232 : mKc 232 = k_X12_readTowerLine := rfl
def f_X12_readTowerLine  (M0 : mM) : Option (Bool × mM) :=
  b1 (f_X12_isWord 400 M0) (fun v1 => bif v1 then (b2 (f_X12_readPerson M0) (fun v3 M3 => some (v3, M3))) else (b1 (f_X12_isWord 403 M0) (fun v4 => bif v4 then (b2 (f_X12_readUp M0) (fun v6 M6 => some (v6, M6))) else (b1 (f_X12_isWord 406 M0) (fun v7 => bif v7 then (b2 (f_X12_readAsleep M0) (fun v9 M9 => some (v9, M9))) else (b1 (f_X12_isWord 407 M0) (fun v10 => bif v10 then (b2 (f_X12_readNumber (5 : Int32) (0 : Int32) (8 : Int32) M0) (fun v12 M12 => some (v12, M12))) else (b1 (f_X12_isWord 408 M0) (fun v13 => bif v13 then (b2 (f_X12_readNumber (3 : Int32) (0 : Int32) (23 : Int32) M0) (fun v15 M15 => some (v15, M15))) else (b1 (f_X12_isWord 409 M0) (fun v16 => bif v16 then (b2 (f_X12_readNumber (4 : Int32) (0 : Int32) (999 : Int32) M0) (fun v18 M18 => bif v18 then (some (true, M18)) else (some (false, M18)))) else (some (false, M0)))))))))))))
set_option maxRecDepth 8000 in
theorem c_X12_readTowerLine  {M0 : mM} {out : (Bool × mM)} (h : f_X12_readTowerLine M0 = some out) : Cs (11) 232 [.ref 215] M0 (emW eB out) := by
  generalize hk : emW eB out = R
  replace hk := hk.symm
  unfold f_X12_readTowerLine at h
  show Ev (11) 232 0 [some (.ref 215)] [] M0 R
  refine ev_go kc_232 2 (i' := 2) (L' := [some (.ref 215)]) (st' := [.ref 400, .ref 215]) (M' := M0) rfl ?_
  obtain ⟨v1, hc1, h⟩ := o_b1 h
  refine ev_cl0 (ins := .invokevirtual 181) kc_232 rfl rfl (a := 220) (as := [.ref 215, .ref 400]) (rest := []) rfl rfl (Cs.deep (c_X12_isWord (M0 := M0) hc1) (by decide)) ?_
  rcases o_bif h with ⟨hb2, h⟩ | ⟨hb2, h⟩
  · refine ev_goF kc_232 1 (t := 7) (e := 4) (L' := [some (.ref 215)]) (st' := []) rfl (mB_e0f hb2) ?_
    refine ev_go kc_232 1 (i' := 5) (L' := [some (.ref 215)]) (st' := [.ref 215]) (M' := M0) rfl ?_
    obtain ⟨v3, M3, hc3, h⟩ := o_b2 h
    refine ev_cl0 (ins := .invokevirtual 205) kc_232 rfl rfl (a := 228) (as := [.ref 215]) (rest := []) rfl rfl (Cs.deep (c_X12_readPerson hc3) (by decide)) ?_
    obtain rfl := Option.some.inj h
    rw [hk]
    exact ev_ret kc_232 rfl rfl mB_rok
  · refine ev_goT kc_232 1 (t := 7) (e := 4) (L' := [some (.ref 215)]) (st' := []) rfl (mB_e0t hb2) ?_
    refine ev_go kc_232 2 (i' := 9) (L' := [some (.ref 215)]) (st' := [.ref 403, .ref 215]) (M' := M0) rfl ?_
    obtain ⟨v4, hc4, h⟩ := o_b1 h
    refine ev_cl0 (ins := .invokevirtual 181) kc_232 rfl rfl (a := 220) (as := [.ref 215, .ref 403]) (rest := []) rfl rfl (Cs.deep (c_X12_isWord (M0 := M0) hc4) (by decide)) ?_
    rcases o_bif h with ⟨hb5, h⟩ | ⟨hb5, h⟩
    · refine ev_goF kc_232 1 (t := 14) (e := 11) (L' := [some (.ref 215)]) (st' := []) rfl (mB_e0f hb5) ?_
      refine ev_go kc_232 1 (i' := 12) (L' := [some (.ref 215)]) (st' := [.ref 215]) (M' := M0) rfl ?_
      obtain ⟨v6, M6, hc6, h⟩ := o_b2 h
      refine ev_cl0 (ins := .invokevirtual 210) kc_232 rfl rfl (a := 230) (as := [.ref 215]) (rest := []) rfl rfl (Cs.deep (c_X12_readUp hc6) (by decide)) ?_
      obtain rfl := Option.some.inj h
      rw [hk]
      exact ev_ret kc_232 rfl rfl mB_rok
    · refine ev_goT kc_232 1 (t := 14) (e := 11) (L' := [some (.ref 215)]) (st' := []) rfl (mB_e0t hb5) ?_
      refine ev_go kc_232 2 (i' := 16) (L' := [some (.ref 215)]) (st' := [.ref 406, .ref 215]) (M' := M0) rfl ?_
      obtain ⟨v7, hc7, h⟩ := o_b1 h
      refine ev_cl0 (ins := .invokevirtual 181) kc_232 rfl rfl (a := 220) (as := [.ref 215, .ref 406]) (rest := []) rfl rfl (Cs.deep (c_X12_isWord (M0 := M0) hc7) (by decide)) ?_
      rcases o_bif h with ⟨hb8, h⟩ | ⟨hb8, h⟩
      · refine ev_goF kc_232 1 (t := 21) (e := 18) (L' := [some (.ref 215)]) (st' := []) rfl (mB_e0f hb8) ?_
        refine ev_go kc_232 1 (i' := 19) (L' := [some (.ref 215)]) (st' := [.ref 215]) (M' := M0) rfl ?_
        obtain ⟨v9, M9, hc9, h⟩ := o_b2 h
        refine ev_cl0 (ins := .invokevirtual 215) kc_232 rfl rfl (a := 231) (as := [.ref 215]) (rest := []) rfl rfl (Cs.deep (c_X12_readAsleep hc9) (by decide)) ?_
        obtain rfl := Option.some.inj h
        rw [hk]
        exact ev_ret kc_232 rfl rfl mB_rok
      · refine ev_goT kc_232 1 (t := 21) (e := 18) (L' := [some (.ref 215)]) (st' := []) rfl (mB_e0t hb8) ?_
        refine ev_go kc_232 2 (i' := 23) (L' := [some (.ref 215)]) (st' := [.ref 407, .ref 215]) (M' := M0) rfl ?_
        obtain ⟨v10, hc10, h⟩ := o_b1 h
        refine ev_cl0 (ins := .invokevirtual 181) kc_232 rfl rfl (a := 220) (as := [.ref 215, .ref 407]) (rest := []) rfl rfl (Cs.deep (c_X12_isWord (M0 := M0) hc10) (by decide)) ?_
        rcases o_bif h with ⟨hb11, h⟩ | ⟨hb11, h⟩
        · refine ev_goF kc_232 1 (t := 31) (e := 25) (L' := [some (.ref 215)]) (st' := []) rfl (mB_e0f hb11) ?_
          refine ev_go kc_232 4 (i' := 29) (L' := [some (.ref 215)]) (st' := [.int (8 : Int32), .int (0 : Int32), .int (5 : Int32), .ref 215]) (M' := M0) rfl ?_
          obtain ⟨v12, M12, hc12, h⟩ := o_b2 h
          refine ev_cl0 (ins := .invokevirtual 220) kc_232 rfl rfl (a := 227) (as := [.ref 215, .int (5 : Int32), .int (0 : Int32), .int (8 : Int32)]) (rest := []) rfl rfl (Cs.deep (c_X12_readNumber hc12) (by decide)) ?_
          obtain rfl := Option.some.inj h
          rw [hk]
          exact ev_ret kc_232 rfl rfl mB_rok
        · refine ev_goT kc_232 1 (t := 31) (e := 25) (L' := [some (.ref 215)]) (st' := []) rfl (mB_e0t hb11) ?_
          refine ev_go kc_232 2 (i' := 33) (L' := [some (.ref 215)]) (st' := [.ref 408, .ref 215]) (M' := M0) rfl ?_
          obtain ⟨v13, hc13, h⟩ := o_b1 h
          refine ev_cl0 (ins := .invokevirtual 181) kc_232 rfl rfl (a := 220) (as := [.ref 215, .ref 408]) (rest := []) rfl rfl (Cs.deep (c_X12_isWord (M0 := M0) hc13) (by decide)) ?_
          rcases o_bif h with ⟨hb14, h⟩ | ⟨hb14, h⟩
          · refine ev_goF kc_232 1 (t := 41) (e := 35) (L' := [some (.ref 215)]) (st' := []) rfl (mB_e0f hb14) ?_
            refine ev_go kc_232 4 (i' := 39) (L' := [some (.ref 215)]) (st' := [.int (23 : Int32), .int (0 : Int32), .int (3 : Int32), .ref 215]) (M' := M0) rfl ?_
            obtain ⟨v15, M15, hc15, h⟩ := o_b2 h
            refine ev_cl0 (ins := .invokevirtual 220) kc_232 rfl rfl (a := 227) (as := [.ref 215, .int (3 : Int32), .int (0 : Int32), .int (23 : Int32)]) (rest := []) rfl rfl (Cs.deep (c_X12_readNumber hc15) (by decide)) ?_
            obtain rfl := Option.some.inj h
            rw [hk]
            exact ev_ret kc_232 rfl rfl mB_rok
          · refine ev_goT kc_232 1 (t := 41) (e := 35) (L' := [some (.ref 215)]) (st' := []) rfl (mB_e0t hb14) ?_
            refine ev_go kc_232 2 (i' := 43) (L' := [some (.ref 215)]) (st' := [.ref 409, .ref 215]) (M' := M0) rfl ?_
            obtain ⟨v16, hc16, h⟩ := o_b1 h
            refine ev_cl0 (ins := .invokevirtual 181) kc_232 rfl rfl (a := 220) (as := [.ref 215, .ref 409]) (rest := []) rfl rfl (Cs.deep (c_X12_isWord (M0 := M0) hc16) (by decide)) ?_
            rcases o_bif h with ⟨hb17, h⟩ | ⟨hb17, h⟩
            · refine ev_goF kc_232 1 (t := 53) (e := 45) (L' := [some (.ref 215)]) (st' := []) rfl (mB_e0f hb17) ?_
              refine ev_go kc_232 4 (i' := 49) (L' := [some (.ref 215)]) (st' := [.int (999 : Int32), .int (0 : Int32), .int (4 : Int32), .ref 215]) (M' := M0) rfl ?_
              obtain ⟨v18, M18, hc18, h⟩ := o_b2 h
              refine ev_cl0 (ins := .invokevirtual 220) kc_232 rfl rfl (a := 227) (as := [.ref 215, .int (4 : Int32), .int (0 : Int32), .int (999 : Int32)]) (rest := []) rfl rfl (Cs.deep (c_X12_readNumber hc18) (by decide)) ?_
              rcases o_bif h with ⟨hb19, h⟩ | ⟨hb19, h⟩
              · refine ev_goF kc_232 1 (t := 53) (e := 51) (L' := [some (.ref 215)]) (st' := []) rfl (mB_e0f hb19) ?_
                refine ev_go kc_232 2 (i' := 54) (L' := [some (.ref 215)]) (st' := [.int (1 : Int32)]) (M' := M18) rfl ?_
                obtain rfl := Option.some.inj h
                rw [hk]
                exact ev_ret kc_232 rfl rfl rfl
              · refine ev_goT kc_232 1 (t := 53) (e := 51) (L' := [some (.ref 215)]) (st' := []) rfl (mB_e0t hb19) ?_
                refine ev_go kc_232 1 (i' := 54) (L' := [some (.ref 215)]) (st' := [.int (0 : Int32)]) (M' := M18) rfl ?_
                obtain rfl := Option.some.inj h
                rw [hk]
                exact ev_ret kc_232 rfl rfl rfl
            · refine ev_goT kc_232 1 (t := 53) (e := 45) (L' := [some (.ref 215)]) (st' := []) rfl (mB_e0t hb17) ?_
              refine ev_go kc_232 1 (i' := 54) (L' := [some (.ref 215)]) (st' := [.int (0 : Int32)]) (M' := M0) rfl ?_
              obtain rfl := Option.some.inj h
              rw [hk]
              exact ev_ret kc_232 rfl rfl rfl
/-- WakeTowerModel.emits(II)V: 233, W -/
theorem kc_233 : mKc 233 = k_X12_emits := rfl
def f_X12_emits (p1 : Int32) (p2 : Int32) (M0 : mM) : Option (Unit × mM) :=
  gd (mIn ((1322 : Int32) + ((2 : Int32) * (M0 215 20))) 2122) (wr (mst M0 216 (ix ((1322 : Int32) + ((2 : Int32) * (M0 215 20)))) p1) (fun M1 => gd (mIn (((1322 : Int32) + ((2 : Int32) * (M1 215 20))) + (1 : Int32)) 2122) (wr (mst M1 216 (ix (((1322 : Int32) + ((2 : Int32) * (M1 215 20))) + (1 : Int32))) p2) (fun M3 => wr (mst M3 215 20 ((M3 215 20) + (1 : Int32))) (fun M5 => some ((), M5))))))
set_option maxRecDepth 8000 in
theorem c_X12_emits {p1 : Int32} {p2 : Int32} {M0 : mM} {out : (Unit × mM)} (h : f_X12_emits p1 p2 M0 = some out) : Cs (0) 233 [.ref 215, .int p1, .int p2] M0 (emW eU out) := by
  generalize hk : emW eU out = R
  replace hk := hk.symm
  unfold f_X12_emits at h
  show Ev (0) 233 0 [some (.ref 215), some (.int p1), some (.int p2)] [] M0 R
  refine ev_go kc_233 9 (i' := 9) (L' := [some (.ref 215), some (.int p1), some (.int p2)]) (st' := [.int p1, .int ((1322 : Int32) + ((2 : Int32) * (M0 215 20))), .ref 216]) (M' := M0) rfl ?_
  obtain ⟨hg2, h⟩ := o_gd h
  obtain ⟨M1, hM1, h⟩ := o_wr h
  refine ev_is kc_233 rfl rfl hg2 hM1 ?_
  refine ev_go kc_233 11 (i' := 21) (L' := [some (.ref 215), some (.int p1), some (.int p2)]) (st' := [.int p2, .int (((1322 : Int32) + ((2 : Int32) * (M1 215 20))) + (1 : Int32)), .ref 216]) (M' := M1) rfl ?_
  obtain ⟨hg4, h⟩ := o_gd h
  obtain ⟨M3, hM3, h⟩ := o_wr h
  refine ev_is kc_233 rfl rfl hg4 hM3 ?_
  refine ev_go kc_233 5 (i' := 27) (L' := [some (.ref 215), some (.int p1), some (.int p2)]) (st' := [.int ((M3 215 20) + (1 : Int32)), .ref 215]) (M' := M3) rfl ?_
  obtain ⟨M5, hM5, h⟩ := o_wr h
  refine ev_pf kc_233 rfl rfl rfl rfl (fun hc => absurd hc (by decide)) hM5 ?_
  obtain rfl := Option.some.inj h
  rw [hk]
  exact ev_vret kc_233 rfl rfl rfl
/-- WakeTowerModel.wordOfPart()I: 234, R -/
theorem kc_234 : mKc 234 = k_X12_wordOfPart := rfl
def f_X12_wordOfPart  (M0 : mM) : Option Int32 :=
  b1 (f_X12_isWord 400 M0) (fun v1 => bif v1 then (some (0 : Int32)) else (b1 (f_X12_isWord 404 M0) (fun v3 => bif v3 then (some (1 : Int32)) else (b1 (f_X12_isWord 419 M0) (fun v5 => bif v5 then (some (2 : Int32)) else (b1 (f_X12_isWord 420 M0) (fun v7 => bif v7 then (some (3 : Int32)) else (b1 (f_X12_isWord 401 M0) (fun v9 => bif v9 then (some (4 : Int32)) else (b1 (f_X12_isWord 421 M0) (fun v11 => bif v11 then (some (5 : Int32)) else (b1 (f_X12_isWord 408 M0) (fun v13 => bif v13 then (some (6 : Int32)) else (some (-1 : Int32)))))))))))))))
set_option maxRecDepth 8000 in
theorem c_X12_wordOfPart  {M0 : mM} {out : Int32} (h : f_X12_wordOfPart M0 = some out) : Cs (9) 234 [.ref 215] M0 (emR eI M0 out) := by
  generalize hk : emR eI M0 out = R
  replace hk := hk.symm
  unfold f_X12_wordOfPart at h
  show Ev (9) 234 0 [some (.ref 215)] [] M0 R
  refine ev_go kc_234 2 (i' := 2) (L' := [some (.ref 215)]) (st' := [.ref 400, .ref 215]) (M' := M0) rfl ?_
  obtain ⟨v1, hc1, h⟩ := o_b1 h
  refine ev_cl0 (ins := .invokevirtual 181) kc_234 rfl rfl (a := 220) (as := [.ref 215, .ref 400]) (rest := []) rfl rfl (Cs.deep (c_X12_isWord (M0 := M0) hc1) (by decide)) ?_
  rcases o_bif h with ⟨hb2, h⟩ | ⟨hb2, h⟩
  · refine ev_goF kc_234 1 (t := 6) (e := 4) (L' := [some (.ref 215)]) (st' := []) rfl (mB_e0f hb2) ?_
    refine ev_go kc_234 1 (i' := 5) (L' := [some (.ref 215)]) (st' := [.int (0 : Int32)]) (M' := M0) rfl ?_
    obtain rfl := Option.some.inj h
    rw [hk]
    exact ev_ret kc_234 rfl rfl rfl
  · refine ev_goT kc_234 1 (t := 6) (e := 4) (L' := [some (.ref 215)]) (st' := []) rfl (mB_e0t hb2) ?_
    refine ev_go kc_234 2 (i' := 8) (L' := [some (.ref 215)]) (st' := [.ref 404, .ref 215]) (M' := M0) rfl ?_
    obtain ⟨v3, hc3, h⟩ := o_b1 h
    refine ev_cl0 (ins := .invokevirtual 181) kc_234 rfl rfl (a := 220) (as := [.ref 215, .ref 404]) (rest := []) rfl rfl (Cs.deep (c_X12_isWord (M0 := M0) hc3) (by decide)) ?_
    rcases o_bif h with ⟨hb4, h⟩ | ⟨hb4, h⟩
    · refine ev_goF kc_234 1 (t := 12) (e := 10) (L' := [some (.ref 215)]) (st' := []) rfl (mB_e0f hb4) ?_
      refine ev_go kc_234 1 (i' := 11) (L' := [some (.ref 215)]) (st' := [.int (1 : Int32)]) (M' := M0) rfl ?_
      obtain rfl := Option.some.inj h
      rw [hk]
      exact ev_ret kc_234 rfl rfl rfl
    · refine ev_goT kc_234 1 (t := 12) (e := 10) (L' := [some (.ref 215)]) (st' := []) rfl (mB_e0t hb4) ?_
      refine ev_go kc_234 2 (i' := 14) (L' := [some (.ref 215)]) (st' := [.ref 419, .ref 215]) (M' := M0) rfl ?_
      obtain ⟨v5, hc5, h⟩ := o_b1 h
      refine ev_cl0 (ins := .invokevirtual 181) kc_234 rfl rfl (a := 220) (as := [.ref 215, .ref 419]) (rest := []) rfl rfl (Cs.deep (c_X12_isWord (M0 := M0) hc5) (by decide)) ?_
      rcases o_bif h with ⟨hb6, h⟩ | ⟨hb6, h⟩
      · refine ev_goF kc_234 1 (t := 18) (e := 16) (L' := [some (.ref 215)]) (st' := []) rfl (mB_e0f hb6) ?_
        refine ev_go kc_234 1 (i' := 17) (L' := [some (.ref 215)]) (st' := [.int (2 : Int32)]) (M' := M0) rfl ?_
        obtain rfl := Option.some.inj h
        rw [hk]
        exact ev_ret kc_234 rfl rfl rfl
      · refine ev_goT kc_234 1 (t := 18) (e := 16) (L' := [some (.ref 215)]) (st' := []) rfl (mB_e0t hb6) ?_
        refine ev_go kc_234 2 (i' := 20) (L' := [some (.ref 215)]) (st' := [.ref 420, .ref 215]) (M' := M0) rfl ?_
        obtain ⟨v7, hc7, h⟩ := o_b1 h
        refine ev_cl0 (ins := .invokevirtual 181) kc_234 rfl rfl (a := 220) (as := [.ref 215, .ref 420]) (rest := []) rfl rfl (Cs.deep (c_X12_isWord (M0 := M0) hc7) (by decide)) ?_
        rcases o_bif h with ⟨hb8, h⟩ | ⟨hb8, h⟩
        · refine ev_goF kc_234 1 (t := 24) (e := 22) (L' := [some (.ref 215)]) (st' := []) rfl (mB_e0f hb8) ?_
          refine ev_go kc_234 1 (i' := 23) (L' := [some (.ref 215)]) (st' := [.int (3 : Int32)]) (M' := M0) rfl ?_
          obtain rfl := Option.some.inj h
          rw [hk]
          exact ev_ret kc_234 rfl rfl rfl
        · refine ev_goT kc_234 1 (t := 24) (e := 22) (L' := [some (.ref 215)]) (st' := []) rfl (mB_e0t hb8) ?_
          refine ev_go kc_234 2 (i' := 26) (L' := [some (.ref 215)]) (st' := [.ref 401, .ref 215]) (M' := M0) rfl ?_
          obtain ⟨v9, hc9, h⟩ := o_b1 h
          refine ev_cl0 (ins := .invokevirtual 181) kc_234 rfl rfl (a := 220) (as := [.ref 215, .ref 401]) (rest := []) rfl rfl (Cs.deep (c_X12_isWord (M0 := M0) hc9) (by decide)) ?_
          rcases o_bif h with ⟨hb10, h⟩ | ⟨hb10, h⟩
          · refine ev_goF kc_234 1 (t := 30) (e := 28) (L' := [some (.ref 215)]) (st' := []) rfl (mB_e0f hb10) ?_
            refine ev_go kc_234 1 (i' := 29) (L' := [some (.ref 215)]) (st' := [.int (4 : Int32)]) (M' := M0) rfl ?_
            obtain rfl := Option.some.inj h
            rw [hk]
            exact ev_ret kc_234 rfl rfl rfl
          · refine ev_goT kc_234 1 (t := 30) (e := 28) (L' := [some (.ref 215)]) (st' := []) rfl (mB_e0t hb10) ?_
            refine ev_go kc_234 2 (i' := 32) (L' := [some (.ref 215)]) (st' := [.ref 421, .ref 215]) (M' := M0) rfl ?_
            obtain ⟨v11, hc11, h⟩ := o_b1 h
            refine ev_cl0 (ins := .invokevirtual 181) kc_234 rfl rfl (a := 220) (as := [.ref 215, .ref 421]) (rest := []) rfl rfl (Cs.deep (c_X12_isWord (M0 := M0) hc11) (by decide)) ?_
            rcases o_bif h with ⟨hb12, h⟩ | ⟨hb12, h⟩
            · refine ev_goF kc_234 1 (t := 36) (e := 34) (L' := [some (.ref 215)]) (st' := []) rfl (mB_e0f hb12) ?_
              refine ev_go kc_234 1 (i' := 35) (L' := [some (.ref 215)]) (st' := [.int (5 : Int32)]) (M' := M0) rfl ?_
              obtain rfl := Option.some.inj h
              rw [hk]
              exact ev_ret kc_234 rfl rfl rfl
            · refine ev_goT kc_234 1 (t := 36) (e := 34) (L' := [some (.ref 215)]) (st' := []) rfl (mB_e0t hb12) ?_
              refine ev_go kc_234 2 (i' := 38) (L' := [some (.ref 215)]) (st' := [.ref 408, .ref 215]) (M' := M0) rfl ?_
              obtain ⟨v13, hc13, h⟩ := o_b1 h
              refine ev_cl0 (ins := .invokevirtual 181) kc_234 rfl rfl (a := 220) (as := [.ref 215, .ref 408]) (rest := []) rfl rfl (Cs.deep (c_X12_isWord (M0 := M0) hc13) (by decide)) ?_
              rcases o_bif h with ⟨hb14, h⟩ | ⟨hb14, h⟩
              · refine ev_goF kc_234 1 (t := 42) (e := 40) (L' := [some (.ref 215)]) (st' := []) rfl (mB_e0f hb14) ?_
                refine ev_go kc_234 2 (i' := 43) (L' := [some (.ref 215)]) (st' := [.int (6 : Int32)]) (M' := M0) rfl ?_
                obtain rfl := Option.some.inj h
                rw [hk]
                exact ev_ret kc_234 rfl rfl rfl
              · refine ev_goT kc_234 1 (t := 42) (e := 40) (L' := [some (.ref 215)]) (st' := []) rfl (mB_e0t hb14) ?_
                refine ev_go kc_234 1 (i' := 43) (L' := [some (.ref 215)]) (st' := [.int (-1 : Int32)]) (M' := M0) rfl ?_
                obtain rfl := Option.some.inj h
                rw [hk]
                exact ev_ret kc_234 rfl rfl rfl
/-- WakeTowerModel.readPart()Z: 235, W -/
theorem kc_235 : mKc 235 = k_X12_readPart := rfl
def f_X12_readPart_32 (l2 : Int32) (s1 : Int32) (s2 : Int32) (M0 : mM) : Option (Bool × mM) :=
  b2 (f_X12_emits s1 s2 M0) (fun v1 M1 => bif decide (l2 < 0) then (some (false, M1)) else (some (true, M1)))
set_option maxRecDepth 8000 in
theorem e_X12_readPart_32 {l2 : Int32} {s1 : Int32} {s2 : Int32} {M0 : mM} {R : mZ} {out : (Bool × mM)}  (h : f_X12_readPart_32 l2 s1 s2 M0 = some out) (hk : R = emW eB out) : Ev (10) 235 32 [none, none, some (.int l2)] [.int s2, .int s1, .ref 215] M0 R := by
  unfold f_X12_readPart_32 at h
  obtain ⟨v1, M1, hc1, h⟩ := o_b2 h
  refine ev_cl0 (ins := .invokevirtual 238) kc_235 rfl rfl (a := 233) (as := [.ref 215, .int s1, .int s2]) (rest := []) rfl rfl (Cs.deep (c_X12_emits hc1) (by decide)) ?_
  rcases o_bif h with ⟨hb2, h⟩ | ⟨hb2, h⟩
  · refine ev_goT kc_235 2 (t := 37) (e := 35) (L' := [none, none, some (.int l2)]) (st' := []) rfl hb2 ?_
    refine ev_go kc_235 1 (i' := 38) (L' := [none, none, some (.int l2)]) (st' := [.int (0 : Int32)]) (M' := M1) rfl ?_
    obtain rfl := Option.some.inj h
    rw [hk]
    exact ev_ret kc_235 rfl rfl rfl
  · refine ev_goF kc_235 2 (t := 37) (e := 35) (L' := [none, none, some (.int l2)]) (st' := []) rfl hb2 ?_
    refine ev_go kc_235 2 (i' := 38) (L' := [none, none, some (.int l2)]) (st' := [.int (1 : Int32)]) (M' := M1) rfl ?_
    obtain rfl := Option.some.inj h
    rw [hk]
    exact ev_ret kc_235 rfl rfl rfl
def f_X12_readPart_27 (l1 : Int32) (l2 : Int32) (s1 : Int32) (M0 : mM) : Option (Bool × mM) :=
  bif decide (l1 = 0) then (f_X12_readPart_32 l2 s1 (0 : Int32) M0) else (f_X12_readPart_32 l2 s1 l2 M0)
set_option maxRecDepth 8000 in
theorem e_X12_readPart_27 {l1 : Int32} {l2 : Int32} {s1 : Int32} {M0 : mM} {R : mZ} {out : (Bool × mM)}  (h : f_X12_readPart_27 l1 l2 s1 M0 = some out) (hk : R = emW eB out) : Ev (10) 235 27 [none, some (.int l1), some (.int l2)] [.int s1, .ref 215] M0 R := by
  unfold f_X12_readPart_27 at h
  rcases o_bif h with ⟨hb3, h⟩ | ⟨hb3, h⟩
  · refine ev_goT kc_235 2 (t := 31) (e := 29) (L' := [none, some (.int l1), some (.int l2)]) (st' := [.int s1, .ref 215]) rfl hb3 ?_
    refine ev_go kc_235 1 (i' := 32) (L' := [none, some (.int l1), some (.int l2)]) (st' := [.int (0 : Int32), .int s1, .ref 215]) (M' := M0) rfl ?_
    exact Ev.forget (mLe.sk (mLe.sk (mLe.kp mLe.nl))) (e_X12_readPart_32  h hk)
  · refine ev_goF kc_235 2 (t := 31) (e := 29) (L' := [none, some (.int l1), some (.int l2)]) (st' := [.int s1, .ref 215]) rfl hb3 ?_
    refine ev_go kc_235 2 (i' := 32) (L' := [none, some (.int l1), some (.int l2)]) (st' := [.int l2, .int s1, .ref 215]) (M' := M0) rfl ?_
    exact Ev.forget (mLe.sk (mLe.sk (mLe.kp mLe.nl))) (e_X12_readPart_32  h hk)
def f_X12_readPart_20 (l1 : Int32) (s0 : Int32) (M0 : mM) : Option (Bool × mM) :=
  bif decide (l1 = 0) then (f_X12_readPart_27 l1 s0 s0 M0) else (f_X12_readPart_27 l1 s0 (10 : Int32) M0)
set_option maxRecDepth 8000 in
theorem e_X12_readPart_20 {l1 : Int32} {s0 : Int32} {M0 : mM} {R : mZ} {out : (Bool × mM)}  (h : f_X12_readPart_20 l1 s0 M0 = some out) (hk : R = emW eB out) : Ev (10) 235 20 [some (.ref 215), some (.int l1), none] [.int s0] M0 R := by
  unfold f_X12_readPart_20 at h
  rcases o_bif h with ⟨hb4, h⟩ | ⟨hb4, h⟩
  · refine ev_goT kc_235 4 (t := 26) (e := 24) (L' := [some (.ref 215), some (.int l1), some (.int s0)]) (st' := [.ref 215]) rfl hb4 ?_
    refine ev_go kc_235 1 (i' := 27) (L' := [some (.ref 215), some (.int l1), some (.int s0)]) (st' := [.int s0, .ref 215]) (M' := M0) rfl ?_
    exact Ev.forget (mLe.sk (mLe.kp (mLe.kp mLe.nl))) (e_X12_readPart_27  h hk)
  · refine ev_goF kc_235 4 (t := 26) (e := 24) (L' := [some (.ref 215), some (.int l1), some (.int s0)]) (st' := [.ref 215]) rfl hb4 ?_
    refine ev_go kc_235 2 (i' := 27) (L' := [some (.ref 215), some (.int l1), some (.int s0)]) (st' := [.int (10 : Int32), .ref 215]) (M' := M0) rfl ?_
    exact Ev.forget (mLe.sk (mLe.kp (mLe.kp mLe.nl))) (e_X12_readPart_27  h hk)
def f_X12_readPart_10 (s0 : Bool) (M0 : mM) : Option (Bool × mM) :=
  bif s0 then (b2 (f_X12_number (0 : Int32) (999 : Int32) M0) (fun v6 M6 => f_X12_readPart_20 (mB s0) v6 M6)) else (b1 (f_X12_wordOfPart M0) (fun v7 => f_X12_readPart_20 (mB s0) v7 M0))
set_option maxRecDepth 8000 in
theorem e_X12_readPart_10 {s0 : Bool} {M0 : mM} {R : mZ} {out : (Bool × mM)}  (h : f_X12_readPart_10 s0 M0 = some out) (hk : R = emW eB out) : Ev (10) 235 10 [some (.ref 215), none, none] [.int (mB s0)] M0 R := by
  unfold f_X12_readPart_10 at h
  rcases o_bif h with ⟨hb5, h⟩ | ⟨hb5, h⟩
  · refine ev_goF kc_235 3 (t := 18) (e := 13) (L' := [some (.ref 215), some (.int (mB s0)), none]) (st' := []) rfl (mB_e0f hb5) ?_
    refine ev_go kc_235 3 (i' := 16) (L' := [some (.ref 215), some (.int (mB s0)), none]) (st' := [.int (999 : Int32), .int (0 : Int32), .ref 215]) (M' := M0) rfl ?_
    obtain ⟨v6, M6, hc6, h⟩ := o_b2 h
    refine ev_cl0 (ins := .invokevirtual 185) kc_235 rfl rfl (a := 223) (as := [.ref 215, .int (0 : Int32), .int (999 : Int32)]) (rest := []) rfl rfl (Cs.deep (c_X12_number hc6) (by decide)) ?_
    refine ev_go kc_235 1 (i' := 20) (L' := [some (.ref 215), some (.int (mB s0)), none]) (st' := [.int v6]) (M' := M6) rfl ?_
    exact Ev.forget (mLe.kp (mLe.kp (mLe.sk mLe.nl))) (e_X12_readPart_20  h hk)
  · refine ev_goT kc_235 3 (t := 18) (e := 13) (L' := [some (.ref 215), some (.int (mB s0)), none]) (st' := []) rfl (mB_e0t hb5) ?_
    refine ev_go kc_235 1 (i' := 19) (L' := [some (.ref 215), some (.int (mB s0)), none]) (st' := [.ref 215]) (M' := M0) rfl ?_
    obtain ⟨v7, hc7, h⟩ := o_b1 h
    refine ev_cl0 (ins := .invokevirtual 235) kc_235 rfl rfl (a := 234) (as := [.ref 215]) (rest := []) rfl rfl (Cs.deep (c_X12_wordOfPart (M0 := M0) hc7) (by decide)) ?_
    exact Ev.forget (mLe.kp (mLe.kp (mLe.sk mLe.nl))) (e_X12_readPart_20  h hk)
def f_X12_readPart  (M0 : mM) : Option (Bool × mM) :=
  b2 (f_X12_letters M0) (fun v8 M8 => bif decide (¬ (M8 215 14) = (M8 215 16)) then (f_X12_readPart_10 false M8) else (f_X12_readPart_10 true M8))
set_option maxRecDepth 8000 in
theorem c_X12_readPart  {M0 : mM} {out : (Bool × mM)} (h : f_X12_readPart M0 = some out) : Cs (10) 235 [.ref 215] M0 (emW eB out) := by
  generalize hk : emW eB out = R
  replace hk := hk.symm
  unfold f_X12_readPart at h
  show Ev (10) 235 0 [some (.ref 215), none, none] [] M0 R
  refine ev_go kc_235 1 (i' := 1) (L' := [some (.ref 215), none, none]) (st' := [.ref 215]) (M' := M0) rfl ?_
  obtain ⟨v8, M8, hc8, h⟩ := o_b2 h
  refine ev_cl0 (ins := .invokevirtual 178) kc_235 rfl rfl (a := 219) (as := [.ref 215]) (rest := []) rfl rfl (Cs.deep (c_X12_letters hc8) (by decide)) ?_
  rcases o_bif h with ⟨hb9, h⟩ | ⟨hb9, h⟩
  · refine ev_goT kc_235 5 (t := 9) (e := 7) (L' := [some (.ref 215), none, none]) (st' := []) rfl hb9 ?_
    refine ev_go kc_235 1 (i' := 10) (L' := [some (.ref 215), none, none]) (st' := [.int (0 : Int32)]) (M' := M8) rfl ?_
    exact Ev.forget (mLe.kp (mLe.sk (mLe.sk mLe.nl))) (e_X12_readPart_10  h hk)
  · refine ev_goF kc_235 5 (t := 9) (e := 7) (L' := [some (.ref 215), none, none]) (st' := []) rfl hb9 ?_
    refine ev_go kc_235 2 (i' := 10) (L' := [some (.ref 215), none, none]) (st' := [.int (1 : Int32)]) (M' := M8) rfl ?_
    exact Ev.forget (mLe.kp (mLe.sk (mLe.sk mLe.nl))) (e_X12_readPart_10  h hk)
/-- WakeTowerModel.readSum()Z: 236, W -/
theorem kc_236 : mKc 236 = k_X12_readSum := rfl
def f_X12_readSum_5 (M0 : mM) : Option ((Bool × mM) ⊕ (mM)) :=
  b2 (f_X12_sign (43 : Int32) M0) (fun v1 M1 => bif v1 then (b2 (f_X12_readPart M1) (fun v3 M3 => bif v3 then (b2 (f_X12_emits (11 : Int32) (0 : Int32) M3) (fun v5 M5 => some (.inr M5))) else (some (.inl (false, M3))))) else (some (.inl (true, M1))))
set_option maxRecDepth 8000 in
theorem e_X12_readSum_5 {M0 : mM} {R : mZ} {out : ((Bool × mM) ⊕ (mM))}  (h : f_X12_readSum_5 M0 = some out) (hk : (∀ s' : mM, out = .inr s' → Ev (11) 236 5 [some (.ref 215)] [] (s') R) ∧ (∀ e1 : (Bool × mM), out = .inl e1 → R = emW eB e1)) : Ev (11) 236 5 [some (.ref 215)] [] M0 R := by
  unfold f_X12_readSum_5 at h
  refine ev_go kc_236 2 (i' := 7) (L' := [some (.ref 215)]) (st' := [.int (43 : Int32), .ref 215]) (M' := M0) rfl ?_
  obtain ⟨v1, M1, hc1, h⟩ := o_b2 h
  refine ev_cl0 (ins := .invokevirtual 245) kc_236 rfl rfl (a := 222) (as := [.ref 215, .int (43 : Int32)]) (rest := []) rfl rfl (Cs.deep (c_X12_sign hc1) (by decide)) ?_
  rcases o_bif h with ⟨hb2, h⟩ | ⟨hb2, h⟩
  · refine ev_goF kc_236 1 (t := 19) (e := 9) (L' := [some (.ref 215)]) (st' := []) rfl (mB_e0f hb2) ?_
    refine ev_go kc_236 1 (i' := 10) (L' := [some (.ref 215)]) (st' := [.ref 215]) (M' := M1) rfl ?_
    obtain ⟨v3, M3, hc3, h⟩ := o_b2 h
    refine ev_cl0 (ins := .invokevirtual 242) kc_236 rfl rfl (a := 235) (as := [.ref 215]) (rest := []) rfl rfl (Cs.deep (c_X12_readPart hc3) (by decide)) ?_
    rcases o_bif h with ⟨hb4, h⟩ | ⟨hb4, h⟩
    · refine ev_goT kc_236 1 (t := 14) (e := 12) (L' := [some (.ref 215)]) (st' := []) rfl (mB_n0t hb4) ?_
      refine ev_go kc_236 3 (i' := 17) (L' := [some (.ref 215)]) (st' := [.int (0 : Int32), .int (11 : Int32), .ref 215]) (M' := M3) rfl ?_
      obtain ⟨v5, M5, hc5, h⟩ := o_b2 h
      refine ev_cl0 (ins := .invokevirtual 238) kc_236 rfl rfl (a := 233) (as := [.ref 215, .int (11 : Int32), .int (0 : Int32)]) (rest := []) rfl rfl (Cs.deep (c_X12_emits hc5) (by decide)) ?_
      refine ev_go kc_236 1 (i' := 5) (L' := [some (.ref 215)]) (st' := []) (M' := M5) rfl ?_
      obtain rfl := Option.some.inj h
      exact Ev.forget (mLe.kp mLe.nl) (hk.1 M5 rfl)
    · refine ev_goF kc_236 1 (t := 14) (e := 12) (L' := [some (.ref 215)]) (st' := []) rfl (mB_n0f hb4) ?_
      refine ev_go kc_236 1 (i' := 13) (L' := [some (.ref 215)]) (st' := [.int (0 : Int32)]) (M' := M3) rfl ?_
      obtain rfl := Option.some.inj h
      rw [show _ from (hk.2 _ rfl)]
      exact ev_ret kc_236 rfl rfl rfl
  · refine ev_goT kc_236 1 (t := 19) (e := 9) (L' := [some (.ref 215)]) (st' := []) rfl (mB_e0t hb2) ?_
    refine ev_go kc_236 1 (i' := 20) (L' := [some (.ref 215)]) (st' := [.int (1 : Int32)]) (M' := M1) rfl ?_
    obtain rfl := Option.some.inj h
    rw [show _ from (hk.2 _ rfl)]
    exact ev_ret kc_236 rfl rfl rfl
def f_X12_readSum_l5 (M0 : mM) : Option (Bool × mM) :=
  wh 100000 (fun s : mM => f_X12_readSum_5 s) M0
theorem e_X12_readSum_l5 {M0 : mM} {R : mZ} {out : (Bool × mM)}  (h : f_X12_readSum_l5 M0 = some out) (hk : R = emW eB out) : Ev (11) 236 5 [some (.ref 215)] [] M0 R := by
  unfold f_X12_readSum_l5 at h
  exact wh_ev (P := fun s : mM => Ev (11) 236 5 [some (.ref 215)] [] s R) (Q := fun e : (Bool × mM) => R = emW eB e) (fun s o hb h1 h2 => e_X12_readSum_5  hb ⟨h1, h2⟩) 100000 _ _ h hk
def f_X12_readSum  (M0 : mM) : Option (Bool × mM) :=
  b2 (f_X12_readPart M0) (fun v6 M6 => bif v6 then (f_X12_readSum_l5 M6) else (some (false, M6)))
set_option maxRecDepth 8000 in
theorem c_X12_readSum  {M0 : mM} {out : (Bool × mM)} (h : f_X12_readSum M0 = some out) : Cs (11) 236 [.ref 215] M0 (emW eB out) := by
  generalize hk : emW eB out = R
  replace hk := hk.symm
  unfold f_X12_readSum at h
  show Ev (11) 236 0 [some (.ref 215)] [] M0 R
  refine ev_go kc_236 1 (i' := 1) (L' := [some (.ref 215)]) (st' := [.ref 215]) (M' := M0) rfl ?_
  obtain ⟨v6, M6, hc6, h⟩ := o_b2 h
  refine ev_cl0 (ins := .invokevirtual 242) kc_236 rfl rfl (a := 235) (as := [.ref 215]) (rest := []) rfl rfl (Cs.deep (c_X12_readPart hc6) (by decide)) ?_
  rcases o_bif h with ⟨hb7, h⟩ | ⟨hb7, h⟩
  · refine ev_goT kc_236 1 (t := 5) (e := 3) (L' := [some (.ref 215)]) (st' := []) rfl (mB_n0t hb7) ?_
    exact Ev.forget (mLe.kp mLe.nl) (e_X12_readSum_l5  h hk)
  · refine ev_goF kc_236 1 (t := 5) (e := 3) (L' := [some (.ref 215)]) (st' := []) rfl (mB_n0f hb7) ?_
    refine ev_go kc_236 1 (i' := 4) (L' := [some (.ref 215)]) (st' := [.int (0 : Int32)]) (M' := M6) rfl ?_
    obtain rfl := Option.some.inj h
    rw [hk]
    exact ev_ret kc_236 rfl rfl rfl
/-- WakeTowerModel.readTag()Z: 237, W -/
theorem kc_237 : mKc 237 = k_X12_readTag := rfl
def f_X12_readTag_33 (l1 : Int32) (M0 : mM) : Option (Bool × mM) :=
  bif decide (l1 < 0) then (some (false, M0)) else (some (true, M0))
set_option maxRecDepth 8000 in
theorem e_X12_readTag_33 {l1 : Int32} {M0 : mM} {R : mZ} {out : (Bool × mM)}  (h : f_X12_readTag_33 l1 M0 = some out) (hk : R = emW eB out) : Ev (9) 237 33 [none, some (.int l1)] [] M0 R := by
  unfold f_X12_readTag_33 at h
  rcases o_bif h with ⟨hb1, h⟩ | ⟨hb1, h⟩
  · refine ev_goT kc_237 2 (t := 37) (e := 35) (L' := [none, some (.int l1)]) (st' := []) rfl hb1 ?_
    refine ev_go kc_237 1 (i' := 38) (L' := [none, some (.int l1)]) (st' := [.int (0 : Int32)]) (M' := M0) rfl ?_
    obtain rfl := Option.some.inj h
    rw [hk]
    exact ev_ret kc_237 rfl rfl rfl
  · refine ev_goF kc_237 2 (t := 37) (e := 35) (L' := [none, some (.int l1)]) (st' := []) rfl hb1 ?_
    refine ev_go kc_237 2 (i' := 38) (L' := [none, some (.int l1)]) (st' := [.int (1 : Int32)]) (M' := M0) rfl ?_
    obtain rfl := Option.some.inj h
    rw [hk]
    exact ev_ret kc_237 rfl rfl rfl
def f_X12_readTag_21 (s0 : Int32) (M0 : mM) : Option (Bool × mM) :=
  bif decide (s0 < 0) then (wr (mst M0 215 14 (M0 215 16)) (fun M3 => f_X12_readTag_33 s0 M3)) else (b2 (f_X12_emits s0 (0 : Int32) M0) (fun v4 M4 => f_X12_readTag_33 s0 M4))
set_option maxRecDepth 8000 in
theorem e_X12_readTag_21 {s0 : Int32} {M0 : mM} {R : mZ} {out : (Bool × mM)}  (h : f_X12_readTag_21 s0 M0 = some out) (hk : R = emW eB out) : Ev (9) 237 21 [some (.ref 215), none] [.int s0] M0 R := by
  unfold f_X12_readTag_21 at h
  rcases o_bif h with ⟨hb2, h⟩ | ⟨hb2, h⟩
  · refine ev_goT kc_237 3 (t := 29) (e := 24) (L' := [some (.ref 215), some (.int s0)]) (st' := []) rfl hb2 ?_
    refine ev_go kc_237 3 (i' := 32) (L' := [some (.ref 215), some (.int s0)]) (st' := [.int (M0 215 16), .ref 215]) (M' := M0) rfl ?_
    obtain ⟨M3, hM3, h⟩ := o_wr h
    refine ev_pf kc_237 rfl rfl rfl rfl (fun hc => absurd hc (by decide)) hM3 ?_
    exact Ev.forget (mLe.sk (mLe.kp mLe.nl)) (e_X12_readTag_33  h hk)
  · refine ev_goF kc_237 3 (t := 29) (e := 24) (L' := [some (.ref 215), some (.int s0)]) (st' := []) rfl hb2 ?_
    refine ev_go kc_237 3 (i' := 27) (L' := [some (.ref 215), some (.int s0)]) (st' := [.int (0 : Int32), .int s0, .ref 215]) (M' := M0) rfl ?_
    obtain ⟨v4, M4, hc4, h⟩ := o_b2 h
    refine ev_cl0 (ins := .invokevirtual 238) kc_237 rfl rfl (a := 233) (as := [.ref 215, .int s0, .int (0 : Int32)]) (rest := []) rfl rfl (Cs.deep (c_X12_emits hc4) (by decide)) ?_
    refine ev_go kc_237 1 (i' := 33) (L' := [some (.ref 215), some (.int s0)]) (st' := []) (M' := M4) rfl ?_
    exact Ev.forget (mLe.sk (mLe.kp mLe.nl)) (e_X12_readTag_33  h hk)
def f_X12_readTag  (M0 : mM) : Option (Bool × mM) :=
  b2 (f_X12_letters M0) (fun v5 M5 => b1 (f_X12_isWord 406 M5) (fun v6 => bif v6 then (f_X12_readTag_21 (7 : Int32) M5) else (b1 (f_X12_isWord 417 M5) (fun v8 => bif v8 then (f_X12_readTag_21 (8 : Int32) M5) else (b1 (f_X12_isWord 418 M5) (fun v10 => bif v10 then (f_X12_readTag_21 (9 : Int32) M5) else (f_X12_readTag_21 (-1 : Int32) M5)))))))
set_option maxRecDepth 8000 in
theorem c_X12_readTag  {M0 : mM} {out : (Bool × mM)} (h : f_X12_readTag M0 = some out) : Cs (9) 237 [.ref 215] M0 (emW eB out) := by
  generalize hk : emW eB out = R
  replace hk := hk.symm
  unfold f_X12_readTag at h
  show Ev (9) 237 0 [some (.ref 215), none] [] M0 R
  refine ev_go kc_237 1 (i' := 1) (L' := [some (.ref 215), none]) (st' := [.ref 215]) (M' := M0) rfl ?_
  obtain ⟨v5, M5, hc5, h⟩ := o_b2 h
  refine ev_cl0 (ins := .invokevirtual 178) kc_237 rfl rfl (a := 219) (as := [.ref 215]) (rest := []) rfl rfl (Cs.deep (c_X12_letters hc5) (by decide)) ?_
  refine ev_go kc_237 2 (i' := 4) (L' := [some (.ref 215), none]) (st' := [.ref 406, .ref 215]) (M' := M5) rfl ?_
  obtain ⟨v6, hc6, h⟩ := o_b1 h
  refine ev_cl0 (ins := .invokevirtual 181) kc_237 rfl rfl (a := 220) (as := [.ref 215, .ref 406]) (rest := []) rfl rfl (Cs.deep (c_X12_isWord (M0 := M5) hc6) (by decide)) ?_
  rcases o_bif h with ⟨hb7, h⟩ | ⟨hb7, h⟩
  · refine ev_goF kc_237 1 (t := 8) (e := 6) (L' := [some (.ref 215), none]) (st' := []) rfl (mB_e0f hb7) ?_
    refine ev_go kc_237 2 (i' := 21) (L' := [some (.ref 215), none]) (st' := [.int (7 : Int32)]) (M' := M5) rfl ?_
    exact Ev.forget (mLe.kp (mLe.sk mLe.nl)) (e_X12_readTag_21  h hk)
  · refine ev_goT kc_237 1 (t := 8) (e := 6) (L' := [some (.ref 215), none]) (st' := []) rfl (mB_e0t hb7) ?_
    refine ev_go kc_237 2 (i' := 10) (L' := [some (.ref 215), none]) (st' := [.ref 417, .ref 215]) (M' := M5) rfl ?_
    obtain ⟨v8, hc8, h⟩ := o_b1 h
    refine ev_cl0 (ins := .invokevirtual 181) kc_237 rfl rfl (a := 220) (as := [.ref 215, .ref 417]) (rest := []) rfl rfl (Cs.deep (c_X12_isWord (M0 := M5) hc8) (by decide)) ?_
    rcases o_bif h with ⟨hb9, h⟩ | ⟨hb9, h⟩
    · refine ev_goF kc_237 1 (t := 14) (e := 12) (L' := [some (.ref 215), none]) (st' := []) rfl (mB_e0f hb9) ?_
      refine ev_go kc_237 2 (i' := 21) (L' := [some (.ref 215), none]) (st' := [.int (8 : Int32)]) (M' := M5) rfl ?_
      exact Ev.forget (mLe.kp (mLe.sk mLe.nl)) (e_X12_readTag_21  h hk)
    · refine ev_goT kc_237 1 (t := 14) (e := 12) (L' := [some (.ref 215), none]) (st' := []) rfl (mB_e0t hb9) ?_
      refine ev_go kc_237 2 (i' := 16) (L' := [some (.ref 215), none]) (st' := [.ref 418, .ref 215]) (M' := M5) rfl ?_
      obtain ⟨v10, hc10, h⟩ := o_b1 h
      refine ev_cl0 (ins := .invokevirtual 181) kc_237 rfl rfl (a := 220) (as := [.ref 215, .ref 418]) (rest := []) rfl rfl (Cs.deep (c_X12_isWord (M0 := M5) hc10) (by decide)) ?_
      rcases o_bif h with ⟨hb11, h⟩ | ⟨hb11, h⟩
      · refine ev_goF kc_237 1 (t := 20) (e := 18) (L' := [some (.ref 215), none]) (st' := []) rfl (mB_e0f hb11) ?_
        refine ev_go kc_237 2 (i' := 21) (L' := [some (.ref 215), none]) (st' := [.int (9 : Int32)]) (M' := M5) rfl ?_
        exact Ev.forget (mLe.kp (mLe.sk mLe.nl)) (e_X12_readTag_21  h hk)
      · refine ev_goT kc_237 1 (t := 20) (e := 18) (L' := [some (.ref 215), none]) (st' := []) rfl (mB_e0t hb11) ?_
        refine ev_go kc_237 1 (i' := 21) (L' := [some (.ref 215), none]) (st' := [.int (-1 : Int32)]) (M' := M5) rfl ?_
        exact Ev.forget (mLe.kp (mLe.sk mLe.nl)) (e_X12_readTag_21  h hk)
/-- WakeTowerModel.isTop(I)Z: 246, R -/
theorem kc_246 : mKc 246 = k_X12_isTop := rfl
def f_X12_isTop_6 (l1 : Int32) (l2 : Bool) (l3 : Int32) (M0 : mM) : Option (Bool ⊕ (Bool × Int32)) :=
  b1 (f_X12_people M0) (fun v1 => bif decide (v1 ≤ l3) then (some (.inl l2)) else (bif l2 then (b1 (f_X12_of l3 (6 : Int32) M0) (fun v4 => bif (f_X12_has v4 l1) then (some (.inr (false, (l3 + (1 : Int32))))) else (some (.inr (true, (l3 + (1 : Int32))))))) else (some (.inr (false, (l3 + (1 : Int32)))))))
set_option maxRecDepth 8000 in
theorem e_X12_isTop_6 {l1 : Int32} {l2 : Bool} {l3 : Int32} {M0 : mM} {R : mZ} {out : (Bool ⊕ (Bool × Int32))}  (h : f_X12_isTop_6 l1 l2 l3 M0 = some out) (hk : (∀ s' : Bool × Int32, out = .inr s' → Ev (3) 246 6 [some (.ref 215), some (.int l1), some (.int (mB s'.1)), some (.int s'.2)] [] M0 R) ∧ (∀ e1 : Bool, out = .inl e1 → R = emR eB M0 e1)) : Ev (3) 246 6 [some (.ref 215), some (.int l1), some (.int (mB l2)), some (.int l3)] [] M0 R := by
  unfold f_X12_isTop_6 at h
  refine ev_go kc_246 2 (i' := 8) (L' := [some (.ref 215), some (.int l1), some (.int (mB l2)), some (.int l3)]) (st' := [.ref 215, .int l3]) (M' := M0) rfl ?_
  obtain ⟨v1, hc1, h⟩ := o_b1 h
  refine ev_cl0 (ins := .invokevirtual 71) kc_246 rfl rfl (a := 190) (as := [.ref 215]) (rest := [.int l3]) rfl rfl (Cs.deep (c_X12_people (M0 := M0) hc1) (by decide)) ?_
  rcases o_bif h with ⟨hb2, h⟩ | ⟨hb2, h⟩
  · refine ev_goT kc_246 1 (t := 25) (e := 10) (L' := [some (.ref 215), some (.int l1), some (.int (mB l2)), some (.int l3)]) (st' := []) rfl hb2 ?_
    refine ev_go kc_246 1 (i' := 26) (L' := [some (.ref 215), some (.int l1), some (.int (mB l2)), some (.int l3)]) (st' := [.int (mB l2)]) (M' := M0) rfl ?_
    obtain rfl := Option.some.inj h
    rw [show _ from (hk.2 _ rfl)]
    exact ev_ret kc_246 rfl rfl mB_rok
  · refine ev_goF kc_246 1 (t := 25) (e := 10) (L' := [some (.ref 215), some (.int l1), some (.int (mB l2)), some (.int l3)]) (st' := []) rfl hb2 ?_
    rcases o_bif h with ⟨hb3, h⟩ | ⟨hb3, h⟩
    · refine ev_goF kc_246 2 (t := 21) (e := 12) (L' := [some (.ref 215), some (.int l1), some (.int (mB l2)), some (.int l3)]) (st' := []) rfl (mB_e0f hb3) ?_
      refine ev_go kc_246 3 (i' := 15) (L' := [some (.ref 215), some (.int l1), some (.int (mB l2)), some (.int l3)]) (st' := [.int (6 : Int32), .int l3, .ref 215]) (M' := M0) rfl ?_
      obtain ⟨v4, hc4, h⟩ := o_b1 h
      refine ev_cl0 (ins := .invokevirtual 79) kc_246 rfl rfl (a := 193) (as := [.ref 215, .int l3, .int (6 : Int32)]) (rest := []) rfl rfl (Cs.deep (c_X12_of (M0 := M0) hc4) (by decide)) ?_
      refine ev_go kc_246 1 (i' := 17) (L' := [some (.ref 215), some (.int l1), some (.int (mB l2)), some (.int l3)]) (st' := [.int l1, .int v4]) (M' := M0) rfl ?_
      refine ev_cl0 (ins := .invokestatic 106) kc_246 rfl rfl (a := 183) (as := [.int v4, .int l1]) (rest := []) rfl rfl (Cs.deep (c_X12_has (M0 := M0)) (by decide)) ?_
      rcases o_bif h with ⟨hb6, h⟩ | ⟨hb6, h⟩
      · refine ev_goT kc_246 1 (t := 21) (e := 19) (L' := [some (.ref 215), some (.int l1), some (.int (mB l2)), some (.int l3)]) (st' := []) rfl (mB_n0t hb6) ?_
        refine ev_go kc_246 4 (i' := 6) (L' := [some (.ref 215), some (.int l1), some (.int (0 : Int32)), some (.int (l3 + (1 : Int32)))]) (st' := []) (M' := M0) rfl ?_
        obtain rfl := Option.some.inj h
        exact Ev.forget (mLe.kp (mLe.kp (mLe.kp (mLe.kp mLe.nl)))) (hk.1 (false, (l3 + (1 : Int32))) rfl)
      · refine ev_goF kc_246 1 (t := 21) (e := 19) (L' := [some (.ref 215), some (.int l1), some (.int (mB l2)), some (.int l3)]) (st' := []) rfl (mB_n0f hb6) ?_
        refine ev_go kc_246 5 (i' := 6) (L' := [some (.ref 215), some (.int l1), some (.int (1 : Int32)), some (.int (l3 + (1 : Int32)))]) (st' := []) (M' := M0) rfl ?_
        obtain rfl := Option.some.inj h
        exact Ev.forget (mLe.kp (mLe.kp (mLe.kp (mLe.kp mLe.nl)))) (hk.1 (true, (l3 + (1 : Int32))) rfl)
    · refine ev_goT kc_246 2 (t := 21) (e := 12) (L' := [some (.ref 215), some (.int l1), some (.int (mB l2)), some (.int l3)]) (st' := []) rfl (mB_e0t hb3) ?_
      refine ev_go kc_246 4 (i' := 6) (L' := [some (.ref 215), some (.int l1), some (.int (0 : Int32)), some (.int (l3 + (1 : Int32)))]) (st' := []) (M' := M0) rfl ?_
      obtain rfl := Option.some.inj h
      exact Ev.forget (mLe.kp (mLe.kp (mLe.kp (mLe.kp mLe.nl)))) (hk.1 (false, (l3 + (1 : Int32))) rfl)
def f_X12_isTop_l6 (l1 : Int32) (l2 : Bool) (l3 : Int32) (M0 : mM) : Option Bool :=
  wh 100000 (fun s : Bool × Int32 => f_X12_isTop_6 l1 s.1 s.2 M0) (l2, l3)
theorem e_X12_isTop_l6 {l1 : Int32} {l2 : Bool} {l3 : Int32} {M0 : mM} {R : mZ} {out : Bool}  (h : f_X12_isTop_l6 l1 l2 l3 M0 = some out) (hk : R = emR eB M0 out) : Ev (3) 246 6 [some (.ref 215), some (.int l1), some (.int (mB l2)), some (.int l3)] [] M0 R := by
  unfold f_X12_isTop_l6 at h
  exact wh_ev (P := fun s : Bool × Int32 => Ev (3) 246 6 [some (.ref 215), some (.int l1), some (.int (mB s.1)), some (.int s.2)] [] M0 R) (Q := fun e : Bool => R = emR eB M0 e) (fun s o hb h1 h2 => e_X12_isTop_6  hb ⟨h1, h2⟩) 100000 _ _ h hk
def f_X12_isTop (p1 : Int32) (M0 : mM) : Option Bool :=
  b1 (f_X12_isUp p1 M0) (fun v7 => f_X12_isTop_l6 p1 v7 (0 : Int32) M0)
set_option maxRecDepth 8000 in
theorem c_X12_isTop {p1 : Int32} {M0 : mM} {out : Bool} (h : f_X12_isTop p1 M0 = some out) : Cs (3) 246 [.ref 215, .int p1] M0 (emR eB M0 out) := by
  generalize hk : emR eB M0 out = R
  replace hk := hk.symm
  unfold f_X12_isTop at h
  show Ev (3) 246 0 [some (.ref 215), some (.int p1), none, none] [] M0 R
  refine ev_go kc_246 2 (i' := 2) (L' := [some (.ref 215), some (.int p1), none, none]) (st' := [.int p1, .ref 215]) (M' := M0) rfl ?_
  obtain ⟨v7, hc7, h⟩ := o_b1 h
  refine ev_cl0 (ins := .invokevirtual 82) kc_246 rfl rfl (a := 194) (as := [.ref 215, .int p1]) (rest := []) rfl rfl (Cs.deep (c_X12_isUp (M0 := M0) hc7) (by decide)) ?_
  refine ev_go kc_246 3 (i' := 6) (L' := [some (.ref 215), some (.int p1), some (.int (mB v7)), some (.int (0 : Int32))]) (st' := []) (M' := M0) rfl ?_
  exact Ev.forget (mLe.kp (mLe.kp (mLe.kp (mLe.kp mLe.nl)))) (e_X12_isTop_l6  h hk)
/-- WakeTowerModel.factOf(III)I: 247, R -/
theorem kc_247 : mKc 247 = k_X12_factOf := rfl
def f_X12_factOf (p1 : Int32) (p2 : Int32) (p3 : Int32) (M0 : mM) : Option Int32 :=
  bif decide (swN p1 (0) 10 = 0) then (some p3) else (bif decide (swN p1 (0) 10 = 1) then (b1 (f_X12_of p3 (5 : Int32) M0) (fun v3 => some (mMax (0 : Int32) v3))) else (bif decide (swN p1 (0) 10 = 2) then (gd (mIn p3 8) (some (M0 221 (ix p3)))) else (bif decide (swN p1 (0) 10 = 3) then (b1 (f_X12_of p3 (2 : Int32) M0) (fun v7 => some v7)) else (bif decide (swN p1 (0) 10 = 4) then (b1 (f_X12_of p3 (0 : Int32) M0) (fun v9 => some v9)) else (bif decide (swN p1 (0) 10 = 5) then (b1 (f_X12_of p3 (4 : Int32) M0) (fun v11 => some v11)) else (bif decide (swN p1 (0) 10 = 6) then (some (M0 216 (ix (3 : Int32)))) else (bif decide (swN p1 (0) 10 = 7) then (b1 (f_X12_of p3 (3 : Int32) M0) (fun v14 => some v14)) else (bif decide (swN p1 (0) 10 = 8) then (b1 (f_X12_isUp p3 M0) (fun v16 => bif v16 then (some (0 : Int32)) else (some (1 : Int32)))) else (bif decide (swN p1 (0) 10 = 9) then (b1 (f_X12_isTop p3 M0) (fun v19 => bif v19 then (some (1 : Int32)) else (some (0 : Int32)))) else (some p2))))))))))
set_option maxRecDepth 8000 in
theorem c_X12_factOf {p1 : Int32} {p2 : Int32} {p3 : Int32} {M0 : mM} {out : Int32} (h : f_X12_factOf p1 p2 p3 M0 = some out) : Cs (8) 247 [.ref 215, .int p1, .int p2, .int p3] M0 (emR eI M0 out) := by
  generalize hk : emR eI M0 out = R
  replace hk := hk.symm
  unfold f_X12_factOf at h
  show Ev (8) 247 0 [some (.ref 215), some (.int p1), some (.int p2), some (.int p3)] [] M0 R
  refine ev_go kc_247 1 (i' := 1) (L' := [some (.ref 215), some (.int p1), some (.int p2), some (.int p3)]) (st' := [.int p1]) (M' := M0) rfl ?_
  rcases o_bif h with ⟨hb1, h⟩ | ⟨hb1, h⟩
  · refine ev_sw kc_247 rfl (n := 10) (t := 2) rfl rfl hb1 rfl rfl ?_
    refine ev_go kc_247 1 (i' := 3) (L' := [some (.ref 215), some (.int p1), some (.int p2), some (.int p3)]) (st' := [.int p3]) (M' := M0) rfl ?_
    obtain rfl := Option.some.inj h
    rw [hk]
    exact ev_ret kc_247 rfl rfl rfl
  rcases o_bif h with ⟨hb2, h⟩ | ⟨hb2, h⟩
  · refine ev_sw kc_247 rfl (n := 10) (t := 4) rfl rfl hb2 rfl rfl ?_
    refine ev_go kc_247 4 (i' := 8) (L' := [some (.ref 215), some (.int p1), some (.int p2), some (.int p3)]) (st' := [.int (5 : Int32), .int p3, .ref 215, .int (0 : Int32)]) (M' := M0) rfl ?_
    obtain ⟨v3, hc3, h⟩ := o_b1 h
    refine ev_cl0 (ins := .invokevirtual 79) kc_247 rfl rfl (a := 193) (as := [.ref 215, .int p3, .int (5 : Int32)]) (rest := [.int (0 : Int32)]) rfl rfl (Cs.deep (c_X12_of (M0 := M0) hc3) (by decide)) ?_
    refine ev_pm kc_247 rfl rfl rfl rfl (as := [.int (0 : Int32), .int v3]) (rest := []) rfl rfl rfl (v := some (mMax (0 : Int32) v3)) rfl ?_
    obtain rfl := Option.some.inj h
    rw [hk]
    exact ev_ret kc_247 rfl rfl rfl
  rcases o_bif h with ⟨hb4, h⟩ | ⟨hb4, h⟩
  · refine ev_sw kc_247 rfl (n := 10) (t := 11) rfl rfl hb4 rfl rfl ?_
    refine ev_go kc_247 3 (i' := 14) (L' := [some (.ref 215), some (.int p1), some (.int p2), some (.int p3)]) (st' := [.int p3, .ref 221]) (M' := M0) rfl ?_
    obtain ⟨hg5, h⟩ := o_gd h
    refine ev_ia kc_247 rfl rfl hg5 ?_
    obtain rfl := Option.some.inj h
    rw [hk]
    exact ev_ret kc_247 rfl rfl rfl
  rcases o_bif h with ⟨hb6, h⟩ | ⟨hb6, h⟩
  · refine ev_sw kc_247 rfl (n := 10) (t := 16) rfl rfl hb6 rfl rfl ?_
    refine ev_go kc_247 3 (i' := 19) (L' := [some (.ref 215), some (.int p1), some (.int p2), some (.int p3)]) (st' := [.int (2 : Int32), .int p3, .ref 215]) (M' := M0) rfl ?_
    obtain ⟨v7, hc7, h⟩ := o_b1 h
    refine ev_cl0 (ins := .invokevirtual 79) kc_247 rfl rfl (a := 193) (as := [.ref 215, .int p3, .int (2 : Int32)]) (rest := []) rfl rfl (Cs.deep (c_X12_of (M0 := M0) hc7) (by decide)) ?_
    obtain rfl := Option.some.inj h
    rw [hk]
    exact ev_ret kc_247 rfl rfl rfl
  rcases o_bif h with ⟨hb8, h⟩ | ⟨hb8, h⟩
  · refine ev_sw kc_247 rfl (n := 10) (t := 21) rfl rfl hb8 rfl rfl ?_
    refine ev_go kc_247 3 (i' := 24) (L' := [some (.ref 215), some (.int p1), some (.int p2), some (.int p3)]) (st' := [.int (0 : Int32), .int p3, .ref 215]) (M' := M0) rfl ?_
    obtain ⟨v9, hc9, h⟩ := o_b1 h
    refine ev_cl0 (ins := .invokevirtual 79) kc_247 rfl rfl (a := 193) (as := [.ref 215, .int p3, .int (0 : Int32)]) (rest := []) rfl rfl (Cs.deep (c_X12_of (M0 := M0) hc9) (by decide)) ?_
    obtain rfl := Option.some.inj h
    rw [hk]
    exact ev_ret kc_247 rfl rfl rfl
  rcases o_bif h with ⟨hb10, h⟩ | ⟨hb10, h⟩
  · refine ev_sw kc_247 rfl (n := 10) (t := 26) rfl rfl hb10 rfl rfl ?_
    refine ev_go kc_247 3 (i' := 29) (L' := [some (.ref 215), some (.int p1), some (.int p2), some (.int p3)]) (st' := [.int (4 : Int32), .int p3, .ref 215]) (M' := M0) rfl ?_
    obtain ⟨v11, hc11, h⟩ := o_b1 h
    refine ev_cl0 (ins := .invokevirtual 79) kc_247 rfl rfl (a := 193) (as := [.ref 215, .int p3, .int (4 : Int32)]) (rest := []) rfl rfl (Cs.deep (c_X12_of (M0 := M0) hc11) (by decide)) ?_
    obtain rfl := Option.some.inj h
    rw [hk]
    exact ev_ret kc_247 rfl rfl rfl
  rcases o_bif h with ⟨hb12, h⟩ | ⟨hb12, h⟩
  · refine ev_sw kc_247 rfl (n := 10) (t := 31) rfl rfl hb12 rfl rfl ?_
    refine ev_go kc_247 3 (i' := 34) (L' := [some (.ref 215), some (.int p1), some (.int p2), some (.int p3)]) (st' := [.int (3 : Int32), .ref 216]) (M' := M0) rfl ?_
    refine ev_ia kc_247 rfl rfl rfl ?_
    obtain rfl := Option.some.inj h
    rw [hk]
    exact ev_ret kc_247 rfl rfl rfl
  rcases o_bif h with ⟨hb13, h⟩ | ⟨hb13, h⟩
  · refine ev_sw kc_247 rfl (n := 10) (t := 36) rfl rfl hb13 rfl rfl ?_
    refine ev_go kc_247 3 (i' := 39) (L' := [some (.ref 215), some (.int p1), some (.int p2), some (.int p3)]) (st' := [.int (3 : Int32), .int p3, .ref 215]) (M' := M0) rfl ?_
    obtain ⟨v14, hc14, h⟩ := o_b1 h
    refine ev_cl0 (ins := .invokevirtual 79) kc_247 rfl rfl (a := 193) (as := [.ref 215, .int p3, .int (3 : Int32)]) (rest := []) rfl rfl (Cs.deep (c_X12_of (M0 := M0) hc14) (by decide)) ?_
    obtain rfl := Option.some.inj h
    rw [hk]
    exact ev_ret kc_247 rfl rfl rfl
  rcases o_bif h with ⟨hb15, h⟩ | ⟨hb15, h⟩
  · refine ev_sw kc_247 rfl (n := 10) (t := 41) rfl rfl hb15 rfl rfl ?_
    refine ev_go kc_247 2 (i' := 43) (L' := [some (.ref 215), some (.int p1), some (.int p2), some (.int p3)]) (st' := [.int p3, .ref 215]) (M' := M0) rfl ?_
    obtain ⟨v16, hc16, h⟩ := o_b1 h
    refine ev_cl0 (ins := .invokevirtual 82) kc_247 rfl rfl (a := 194) (as := [.ref 215, .int p3]) (rest := []) rfl rfl (Cs.deep (c_X12_isUp (M0 := M0) hc16) (by decide)) ?_
    rcases o_bif h with ⟨hb17, h⟩ | ⟨hb17, h⟩
    · refine ev_goF kc_247 1 (t := 47) (e := 45) (L' := [some (.ref 215), some (.int p1), some (.int p2), some (.int p3)]) (st' := []) rfl (mB_e0f hb17) ?_
      refine ev_go kc_247 2 (i' := 48) (L' := [some (.ref 215), some (.int p1), some (.int p2), some (.int p3)]) (st' := [.int (0 : Int32)]) (M' := M0) rfl ?_
      obtain rfl := Option.some.inj h
      rw [hk]
      exact ev_ret kc_247 rfl rfl rfl
    · refine ev_goT kc_247 1 (t := 47) (e := 45) (L' := [some (.ref 215), some (.int p1), some (.int p2), some (.int p3)]) (st' := []) rfl (mB_e0t hb17) ?_
      refine ev_go kc_247 1 (i' := 48) (L' := [some (.ref 215), some (.int p1), some (.int p2), some (.int p3)]) (st' := [.int (1 : Int32)]) (M' := M0) rfl ?_
      obtain rfl := Option.some.inj h
      rw [hk]
      exact ev_ret kc_247 rfl rfl rfl
  rcases o_bif h with ⟨hb18, h⟩ | ⟨hb18, h⟩
  · refine ev_sw kc_247 rfl (n := 10) (t := 49) rfl rfl hb18 rfl rfl ?_
    refine ev_go kc_247 2 (i' := 51) (L' := [some (.ref 215), some (.int p1), some (.int p2), some (.int p3)]) (st' := [.int p3, .ref 215]) (M' := M0) rfl ?_
    obtain ⟨v19, hc19, h⟩ := o_b1 h
    refine ev_cl0 (ins := .invokevirtual 310) kc_247 rfl rfl (a := 246) (as := [.ref 215, .int p3]) (rest := []) rfl rfl (Cs.deep (c_X12_isTop (M0 := M0) hc19) (by decide)) ?_
    rcases o_bif h with ⟨hb20, h⟩ | ⟨hb20, h⟩
    · refine ev_goF kc_247 1 (t := 55) (e := 53) (L' := [some (.ref 215), some (.int p1), some (.int p2), some (.int p3)]) (st' := []) rfl (mB_e0f hb20) ?_
      refine ev_go kc_247 2 (i' := 56) (L' := [some (.ref 215), some (.int p1), some (.int p2), some (.int p3)]) (st' := [.int (1 : Int32)]) (M' := M0) rfl ?_
      obtain rfl := Option.some.inj h
      rw [hk]
      exact ev_ret kc_247 rfl rfl rfl
    · refine ev_goT kc_247 1 (t := 55) (e := 53) (L' := [some (.ref 215), some (.int p1), some (.int p2), some (.int p3)]) (st' := []) rfl (mB_e0t hb20) ?_
      refine ev_go kc_247 1 (i' := 56) (L' := [some (.ref 215), some (.int p1), some (.int p2), some (.int p3)]) (st' := [.int (0 : Int32)]) (M' := M0) rfl ?_
      obtain rfl := Option.some.inj h
      rw [hk]
      exact ev_ret kc_247 rfl rfl rfl
  have hsw : swN p1 (0) 10 = 10 := by
    have := swN_le p1 (0) 10
    have hb1 := of_decide_eq_false hb1
    have hb2 := of_decide_eq_false hb2
    have hb4 := of_decide_eq_false hb4
    have hb6 := of_decide_eq_false hb6
    have hb8 := of_decide_eq_false hb8
    have hb10 := of_decide_eq_false hb10
    have hb12 := of_decide_eq_false hb12
    have hb13 := of_decide_eq_false hb13
    have hb15 := of_decide_eq_false hb15
    have hb18 := of_decide_eq_false hb18
    omega
  refine ev_swD kc_247 rfl (n := 10) rfl rfl hsw ?_
  refine ev_go kc_247 1 (i' := 58) (L' := [some (.ref 215), some (.int p1), some (.int p2), some (.int p3)]) (st' := [.int p2]) (M' := M0) rfl ?_
  obtain rfl := Option.some.inj h
  rw [hk]
  exact ev_ret kc_247 rfl rfl rfl
/-- WakeTowerModel.holdsLine(II)Z: 248, W -/
theorem kc_248 : mKc 248 = k_X12_holdsLine := rfl
def f_X12_holdsLine_143 (l2 : Int32) (l3 : Int32) (l4 : Int32) (l5 : Int32) (s1 : Int32) (s2 : Int32) (M0 : mM) : Option ((Bool × mM) ⊕ (Int32 × Int32 × mM)) :=
  gd (mIn s1 400) (wr (mst M0 225 (ix s1) s2) (fun M1 => some (.inr (l3, (l5 + (1 : Int32)), M1))))
set_option maxRecDepth 8000 in
theorem e_X12_holdsLine_143 {l2 : Int32} {l3 : Int32} {l4 : Int32} {l5 : Int32} {s1 : Int32} {s2 : Int32} {M0 : mM} {R : mZ} {out : ((Bool × mM) ⊕ (Int32 × Int32 × mM))}  (h : f_X12_holdsLine_143 l2 l3 l4 l5 s1 s2 M0 = some out) (hk : (∀ s' : Int32 × Int32 × mM, out = .inr s' → Ev (9) 248 15 [some (.ref 215), none, some (.int l2), some (.int s'.1), some (.int l4), some (.int s'.2.1), none, none, none, none] [] (s'.2.2) R) ∧ (∀ e1 : (Bool × mM), out = .inl e1 → R = emW eB e1)) : Ev (9) 248 143 [some (.ref 215), none, some (.int l2), some (.int l3), some (.int l4), some (.int l5), none, none, none, none] [.int s2, .int s1, .ref 225] M0 R := by
  unfold f_X12_holdsLine_143 at h
  obtain ⟨hg2, h⟩ := o_gd h
  obtain ⟨M1, hM1, h⟩ := o_wr h
  refine ev_is kc_248 rfl rfl hg2 hM1 ?_
  refine ev_go kc_248 2 (i' := 15) (L' := [some (.ref 215), none, some (.int l2), some (.int l3), some (.int l4), some (.int (l5 + (1 : Int32))), none, none, none, none]) (st' := []) (M' := M1) rfl ?_
  obtain rfl := Option.some.inj h
  exact Ev.forget (mLe.kp (mLe.sk (mLe.kp (mLe.kp (mLe.kp (mLe.kp (mLe.sk (mLe.sk (mLe.sk (mLe.sk mLe.nl)))))))))) (hk.1 (l3, (l5 + (1 : Int32)), M1) rfl)
def f_X12_holdsLine_125 (l2 : Int32) (l3 : Int32) (l4 : Int32) (l5 : Int32) (l6 : Int32) (l7 : Int32) (l8 : Int32) (s0 : Bool) (M0 : mM) : Option ((Bool × mM) ⊕ (Int32 × Int32 × mM)) :=
  bif decide (¬ l6 = (11 : Int32)) then (bif s0 then (f_X12_holdsLine_143 l2 l3 l4 l5 (l3 - (1 : Int32)) (1 : Int32) M0) else (f_X12_holdsLine_143 l2 l3 l4 l5 (l3 - (1 : Int32)) (0 : Int32) M0)) else (f_X12_holdsLine_143 l2 l3 l4 l5 (l3 - (1 : Int32)) (l7 + l8) M0)
set_option maxRecDepth 8000 in
theorem e_X12_holdsLine_125 {l2 : Int32} {l3 : Int32} {l4 : Int32} {l5 : Int32} {l6 : Int32} {l7 : Int32} {l8 : Int32} {s0 : Bool} {M0 : mM} {R : mZ} {out : ((Bool × mM) ⊕ (Int32 × Int32 × mM))}  (h : f_X12_holdsLine_125 l2 l3 l4 l5 l6 l7 l8 s0 M0 = some out) (hk : (∀ s' : Int32 × Int32 × mM, out = .inr s' → Ev (9) 248 15 [some (.ref 215), none, some (.int l2), some (.int s'.1), some (.int l4), some (.int s'.2.1), none, none, none, none] [] (s'.2.2) R) ∧ (∀ e1 : (Bool × mM), out = .inl e1 → R = emW eB e1)) : Ev (9) 248 125 [some (.ref 215), none, some (.int l2), some (.int l3), some (.int l4), some (.int l5), some (.int l6), some (.int l7), some (.int l8), none] [.int (mB s0)] M0 R := by
  unfold f_X12_holdsLine_125 at h
  rcases o_bif h with ⟨hb3, h⟩ | ⟨hb3, h⟩
  · refine ev_goT kc_248 9 (t := 138) (e := 134) (L' := [some (.ref 215), none, some (.int l2), some (.int l3), some (.int l4), some (.int l5), some (.int l6), some (.int l7), some (.int l8), some (.int (mB s0))]) (st' := [.int (l3 - (1 : Int32)), .ref 225]) rfl hb3 ?_
    rcases o_bif h with ⟨hb4, h⟩ | ⟨hb4, h⟩
    · refine ev_goF kc_248 2 (t := 142) (e := 140) (L' := [some (.ref 215), none, some (.int l2), some (.int l3), some (.int l4), some (.int l5), some (.int l6), some (.int l7), some (.int l8), some (.int (mB s0))]) (st' := [.int (l3 - (1 : Int32)), .ref 225]) rfl (mB_e0f hb4) ?_
      refine ev_go kc_248 2 (i' := 143) (L' := [some (.ref 215), none, some (.int l2), some (.int l3), some (.int l4), some (.int l5), some (.int l6), some (.int l7), some (.int l8), some (.int (mB s0))]) (st' := [.int (1 : Int32), .int (l3 - (1 : Int32)), .ref 225]) (M' := M0) rfl ?_
      exact Ev.forget (mLe.kp (mLe.sk (mLe.kp (mLe.kp (mLe.kp (mLe.kp (mLe.sk (mLe.sk (mLe.sk (mLe.sk mLe.nl)))))))))) (e_X12_holdsLine_143  h hk)
    · refine ev_goT kc_248 2 (t := 142) (e := 140) (L' := [some (.ref 215), none, some (.int l2), some (.int l3), some (.int l4), some (.int l5), some (.int l6), some (.int l7), some (.int l8), some (.int (mB s0))]) (st' := [.int (l3 - (1 : Int32)), .ref 225]) rfl (mB_e0t hb4) ?_
      refine ev_go kc_248 1 (i' := 143) (L' := [some (.ref 215), none, some (.int l2), some (.int l3), some (.int l4), some (.int l5), some (.int l6), some (.int l7), some (.int l8), some (.int (mB s0))]) (st' := [.int (0 : Int32), .int (l3 - (1 : Int32)), .ref 225]) (M' := M0) rfl ?_
      exact Ev.forget (mLe.kp (mLe.sk (mLe.kp (mLe.kp (mLe.kp (mLe.kp (mLe.sk (mLe.sk (mLe.sk (mLe.sk mLe.nl)))))))))) (e_X12_holdsLine_143  h hk)
  · refine ev_goF kc_248 9 (t := 138) (e := 134) (L' := [some (.ref 215), none, some (.int l2), some (.int l3), some (.int l4), some (.int l5), some (.int l6), some (.int l7), some (.int l8), some (.int (mB s0))]) (st' := [.int (l3 - (1 : Int32)), .ref 225]) rfl hb3 ?_
    refine ev_go kc_248 4 (i' := 143) (L' := [some (.ref 215), none, some (.int l2), some (.int l3), some (.int l4), some (.int l5), some (.int l6), some (.int l7), some (.int l8), some (.int (mB s0))]) (st' := [.int (l7 + l8), .int (l3 - (1 : Int32)), .ref 225]) (M' := M0) rfl ?_
    exact Ev.forget (mLe.kp (mLe.sk (mLe.kp (mLe.kp (mLe.kp (mLe.kp (mLe.sk (mLe.sk (mLe.sk (mLe.sk mLe.nl)))))))))) (e_X12_holdsLine_143  h hk)
def f_X12_holdsLine_15 (l2 : Int32) (l3 : Int32) (l4 : Int32) (l5 : Int32) (M0 : mM) : Option ((Bool × mM) ⊕ (Int32 × Int32 × mM)) :=
  gd (mIn (l4 + (3 : Int32)) 2122) (bif decide ((M0 216 (ix (l4 + (3 : Int32)))) ≤ l5) then (bif decide (l3 = 0) then (some (.inl (true, M0))) else (bif decide (¬ (M0 225 (ix (0 : Int32))) = (1 : Int32)) then (some (.inl (false, M0))) else (some (.inl (true, M0))))) else (gd (mIn ((473 : Int32) + ((2 : Int32) * l5)) 2122) (bif decide ((10 : Int32) < (M0 216 (ix ((473 : Int32) + ((2 : Int32) * l5))))) then (bif decide (¬ (M0 216 (ix ((473 : Int32) + ((2 : Int32) * l5)))) = (14 : Int32)) then (gd (mIn ((l3 + (-1 : Int32)) - (1 : Int32)) 400) (gd (mIn (l3 + (-1 : Int32)) 400) (bif decide (¬ (M0 216 (ix ((473 : Int32) + ((2 : Int32) * l5)))) = (12 : Int32)) then (bif decide (¬ (M0 216 (ix ((473 : Int32) + ((2 : Int32) * l5)))) = (13 : Int32)) then (bif decide (¬ (M0 216 (ix ((473 : Int32) + ((2 : Int32) * l5)))) = (15 : Int32)) then (bif decide (((M0 225 (ix ((l3 + (-1 : Int32)) - (1 : Int32)))) + (M0 225 (ix (l3 + (-1 : Int32))))) ≤ 0) then (f_X12_holdsLine_125 l2 (l3 + (-1 : Int32)) l4 l5 (M0 216 (ix ((473 : Int32) + ((2 : Int32) * l5)))) (M0 225 (ix ((l3 + (-1 : Int32)) - (1 : Int32)))) (M0 225 (ix (l3 + (-1 : Int32)))) false M0) else (f_X12_holdsLine_125 l2 (l3 + (-1 : Int32)) l4 l5 (M0 216 (ix ((473 : Int32) + ((2 : Int32) * l5)))) (M0 225 (ix ((l3 + (-1 : Int32)) - (1 : Int32)))) (M0 225 (ix (l3 + (-1 : Int32)))) true M0)) else (bif decide (¬ ((M0 225 (ix ((l3 + (-1 : Int32)) - (1 : Int32)))) + (M0 225 (ix (l3 + (-1 : Int32))))) = (2 : Int32)) then (f_X12_holdsLine_125 l2 (l3 + (-1 : Int32)) l4 l5 (M0 216 (ix ((473 : Int32) + ((2 : Int32) * l5)))) (M0 225 (ix ((l3 + (-1 : Int32)) - (1 : Int32)))) (M0 225 (ix (l3 + (-1 : Int32)))) false M0) else (f_X12_holdsLine_125 l2 (l3 + (-1 : Int32)) l4 l5 (M0 216 (ix ((473 : Int32) + ((2 : Int32) * l5)))) (M0 225 (ix ((l3 + (-1 : Int32)) - (1 : Int32)))) (M0 225 (ix (l3 + (-1 : Int32)))) true M0))) else (bif decide ((M0 225 (ix ((l3 + (-1 : Int32)) - (1 : Int32)))) ≤ (M0 225 (ix (l3 + (-1 : Int32))))) then (f_X12_holdsLine_125 l2 (l3 + (-1 : Int32)) l4 l5 (M0 216 (ix ((473 : Int32) + ((2 : Int32) * l5)))) (M0 225 (ix ((l3 + (-1 : Int32)) - (1 : Int32)))) (M0 225 (ix (l3 + (-1 : Int32)))) false M0) else (f_X12_holdsLine_125 l2 (l3 + (-1 : Int32)) l4 l5 (M0 216 (ix ((473 : Int32) + ((2 : Int32) * l5)))) (M0 225 (ix ((l3 + (-1 : Int32)) - (1 : Int32)))) (M0 225 (ix (l3 + (-1 : Int32)))) true M0))) else (bif decide ((M0 225 (ix (l3 + (-1 : Int32)))) ≤ (M0 225 (ix ((l3 + (-1 : Int32)) - (1 : Int32))))) then (f_X12_holdsLine_125 l2 (l3 + (-1 : Int32)) l4 l5 (M0 216 (ix ((473 : Int32) + ((2 : Int32) * l5)))) (M0 225 (ix ((l3 + (-1 : Int32)) - (1 : Int32)))) (M0 225 (ix (l3 + (-1 : Int32)))) false M0) else (f_X12_holdsLine_125 l2 (l3 + (-1 : Int32)) l4 l5 (M0 216 (ix ((473 : Int32) + ((2 : Int32) * l5)))) (M0 225 (ix ((l3 + (-1 : Int32)) - (1 : Int32)))) (M0 225 (ix (l3 + (-1 : Int32)))) true M0))))) else (gd (mIn (l3 - (1 : Int32)) 400) (gd (mIn (l3 - (1 : Int32)) 400) (wr (mst M0 225 (ix (l3 - (1 : Int32))) ((1 : Int32) - (M0 225 (ix (l3 - (1 : Int32)))))) (fun M22 => some (.inr (l3, (l5 + (1 : Int32)), M22))))))) else (gd (mIn (((473 : Int32) + ((2 : Int32) * l5)) + (1 : Int32)) 2122) (b1 (f_X12_factOf (M0 216 (ix ((473 : Int32) + ((2 : Int32) * l5)))) (M0 216 (ix (((473 : Int32) + ((2 : Int32) * l5)) + (1 : Int32)))) l2 M0) (fun v25 => gd (mIn l3 400) (wr (mst M0 225 (ix l3) v25) (fun M26 => some (.inr ((l3 + (1 : Int32)), (l5 + (1 : Int32)), M26))))))))))
set_option maxRecDepth 8000 in
theorem e_X12_holdsLine_15 {l2 : Int32} {l3 : Int32} {l4 : Int32} {l5 : Int32} {M0 : mM} {R : mZ} {out : ((Bool × mM) ⊕ (Int32 × Int32 × mM))}  (h : f_X12_holdsLine_15 l2 l3 l4 l5 M0 = some out) (hk : (∀ s' : Int32 × Int32 × mM, out = .inr s' → Ev (9) 248 15 [some (.ref 215), none, some (.int l2), some (.int s'.1), some (.int l4), some (.int s'.2.1), none, none, none, none] [] (s'.2.2) R) ∧ (∀ e1 : (Bool × mM), out = .inl e1 → R = emW eB e1)) : Ev (9) 248 15 [some (.ref 215), none, some (.int l2), some (.int l3), some (.int l4), some (.int l5), none, none, none, none] [] M0 R := by
  unfold f_X12_holdsLine_15 at h
  refine ev_go kc_248 6 (i' := 21) (L' := [some (.ref 215), none, some (.int l2), some (.int l3), some (.int l4), some (.int l5), none, none, none, none]) (st' := [.int (l4 + (3 : Int32)), .ref 216, .int l5]) (M' := M0) rfl ?_
  obtain ⟨hg5, h⟩ := o_gd h
  refine ev_ia kc_248 rfl rfl hg5 ?_
  rcases o_bif h with ⟨hb6, h⟩ | ⟨hb6, h⟩
  · refine ev_goT kc_248 1 (t := 146) (e := 23) (L' := [some (.ref 215), none, some (.int l2), some (.int l3), some (.int l4), some (.int l5), none, none, none, none]) (st' := []) rfl hb6 ?_
    rcases o_bif h with ⟨hb7, h⟩ | ⟨hb7, h⟩
    · refine ev_goT kc_248 2 (t := 154) (e := 148) (L' := [some (.ref 215), none, some (.int l2), some (.int l3), some (.int l4), some (.int l5), none, none, none, none]) (st' := []) rfl hb7 ?_
      refine ev_go kc_248 2 (i' := 157) (L' := [some (.ref 215), none, some (.int l2), some (.int l3), some (.int l4), some (.int l5), none, none, none, none]) (st' := [.int (1 : Int32)]) (M' := M0) rfl ?_
      obtain rfl := Option.some.inj h
      rw [show _ from (hk.2 _ rfl)]
      exact ev_ret kc_248 rfl rfl rfl
    · refine ev_goF kc_248 2 (t := 154) (e := 148) (L' := [some (.ref 215), none, some (.int l2), some (.int l3), some (.int l4), some (.int l5), none, none, none, none]) (st' := []) rfl hb7 ?_
      refine ev_go kc_248 3 (i' := 151) (L' := [some (.ref 215), none, some (.int l2), some (.int l3), some (.int l4), some (.int l5), none, none, none, none]) (st' := [.int (0 : Int32), .ref 225]) (M' := M0) rfl ?_
      refine ev_ia kc_248 rfl rfl rfl ?_
      rcases o_bif h with ⟨hb8, h⟩ | ⟨hb8, h⟩
      · refine ev_goT kc_248 2 (t := 156) (e := 154) (L' := [some (.ref 215), none, some (.int l2), some (.int l3), some (.int l4), some (.int l5), none, none, none, none]) (st' := []) rfl hb8 ?_
        refine ev_go kc_248 1 (i' := 157) (L' := [some (.ref 215), none, some (.int l2), some (.int l3), some (.int l4), some (.int l5), none, none, none, none]) (st' := [.int (0 : Int32)]) (M' := M0) rfl ?_
        obtain rfl := Option.some.inj h
        rw [show _ from (hk.2 _ rfl)]
        exact ev_ret kc_248 rfl rfl rfl
      · refine ev_goF kc_248 2 (t := 156) (e := 154) (L' := [some (.ref 215), none, some (.int l2), some (.int l3), some (.int l4), some (.int l5), none, none, none, none]) (st' := []) rfl hb8 ?_
        refine ev_go kc_248 2 (i' := 157) (L' := [some (.ref 215), none, some (.int l2), some (.int l3), some (.int l4), some (.int l5), none, none, none, none]) (st' := [.int (1 : Int32)]) (M' := M0) rfl ?_
        obtain rfl := Option.some.inj h
        rw [show _ from (hk.2 _ rfl)]
        exact ev_ret kc_248 rfl rfl rfl
  · refine ev_goF kc_248 1 (t := 146) (e := 23) (L' := [some (.ref 215), none, some (.int l2), some (.int l3), some (.int l4), some (.int l5), none, none, none, none]) (st' := []) rfl hb6 ?_
    refine ev_go kc_248 7 (i' := 30) (L' := [some (.ref 215), none, some (.int l2), some (.int l3), some (.int l4), some (.int l5), none, none, none, none]) (st' := [.int ((473 : Int32) + ((2 : Int32) * l5)), .ref 216]) (M' := M0) rfl ?_
    obtain ⟨hg9, h⟩ := o_gd h
    refine ev_ia kc_248 rfl rfl hg9 ?_
    rcases o_bif h with ⟨hb10, h⟩ | ⟨hb10, h⟩
    · refine ev_goT kc_248 4 (t := 55) (e := 35) (L' := [some (.ref 215), none, some (.int l2), some (.int l3), some (.int l4), some (.int l5), some (.int (M0 216 (ix ((473 : Int32) + ((2 : Int32) * l5))))), none, none, none]) (st' := []) rfl hb10 ?_
      rcases o_bif h with ⟨hb11, h⟩ | ⟨hb11, h⟩
      · refine ev_goT kc_248 3 (t := 73) (e := 58) (L' := [some (.ref 215), none, some (.int l2), some (.int l3), some (.int l4), some (.int l5), some (.int (M0 216 (ix ((473 : Int32) + ((2 : Int32) * l5))))), none, none, none]) (st' := []) rfl hb11 ?_
        refine ev_go kc_248 6 (i' := 79) (L' := [some (.ref 215), none, some (.int l2), some (.int (l3 + (-1 : Int32))), some (.int l4), some (.int l5), some (.int (M0 216 (ix ((473 : Int32) + ((2 : Int32) * l5))))), none, none, none]) (st' := [.int ((l3 + (-1 : Int32)) - (1 : Int32)), .ref 225]) (M' := M0) rfl ?_
        obtain ⟨hg12, h⟩ := o_gd h
        refine ev_ia kc_248 rfl rfl hg12 ?_
        refine ev_go kc_248 4 (i' := 84) (L' := [some (.ref 215), none, some (.int l2), some (.int (l3 + (-1 : Int32))), some (.int l4), some (.int l5), some (.int (M0 216 (ix ((473 : Int32) + ((2 : Int32) * l5))))), some (.int (M0 225 (ix ((l3 + (-1 : Int32)) - (1 : Int32))))), none, none]) (st' := [.int (l3 + (-1 : Int32)), .ref 225]) (M' := M0) rfl ?_
        obtain ⟨hg13, h⟩ := o_gd h
        refine ev_ia kc_248 rfl rfl hg13 ?_
        rcases o_bif h with ⟨hb14, h⟩ | ⟨hb14, h⟩
        · refine ev_goT kc_248 4 (t := 96) (e := 89) (L' := [some (.ref 215), none, some (.int l2), some (.int (l3 + (-1 : Int32))), some (.int l4), some (.int l5), some (.int (M0 216 (ix ((473 : Int32) + ((2 : Int32) * l5))))), some (.int (M0 225 (ix ((l3 + (-1 : Int32)) - (1 : Int32))))), some (.int (M0 225 (ix (l3 + (-1 : Int32))))), none]) (st' := []) rfl hb14 ?_
          rcases o_bif h with ⟨hb15, h⟩ | ⟨hb15, h⟩
          · refine ev_goT kc_248 3 (t := 106) (e := 99) (L' := [some (.ref 215), none, some (.int l2), some (.int (l3 + (-1 : Int32))), some (.int l4), some (.int l5), some (.int (M0 216 (ix ((473 : Int32) + ((2 : Int32) * l5))))), some (.int (M0 225 (ix ((l3 + (-1 : Int32)) - (1 : Int32))))), some (.int (M0 225 (ix (l3 + (-1 : Int32))))), none]) (st' := []) rfl hb15 ?_
            rcases o_bif h with ⟨hb16, h⟩ | ⟨hb16, h⟩
            · refine ev_goT kc_248 3 (t := 118) (e := 109) (L' := [some (.ref 215), none, some (.int l2), some (.int (l3 + (-1 : Int32))), some (.int l4), some (.int l5), some (.int (M0 216 (ix ((473 : Int32) + ((2 : Int32) * l5))))), some (.int (M0 225 (ix ((l3 + (-1 : Int32)) - (1 : Int32))))), some (.int (M0 225 (ix (l3 + (-1 : Int32))))), none]) (st' := []) rfl hb16 ?_
              rcases o_bif h with ⟨hb17, h⟩ | ⟨hb17, h⟩
              · refine ev_goT kc_248 4 (t := 124) (e := 122) (L' := [some (.ref 215), none, some (.int l2), some (.int (l3 + (-1 : Int32))), some (.int l4), some (.int l5), some (.int (M0 216 (ix ((473 : Int32) + ((2 : Int32) * l5))))), some (.int (M0 225 (ix ((l3 + (-1 : Int32)) - (1 : Int32))))), some (.int (M0 225 (ix (l3 + (-1 : Int32))))), none]) (st' := []) rfl hb17 ?_
                refine ev_go kc_248 1 (i' := 125) (L' := [some (.ref 215), none, some (.int l2), some (.int (l3 + (-1 : Int32))), some (.int l4), some (.int l5), some (.int (M0 216 (ix ((473 : Int32) + ((2 : Int32) * l5))))), some (.int (M0 225 (ix ((l3 + (-1 : Int32)) - (1 : Int32))))), some (.int (M0 225 (ix (l3 + (-1 : Int32))))), none]) (st' := [.int (0 : Int32)]) (M' := M0) rfl ?_
                exact Ev.forget (mLe.kp (mLe.sk (mLe.kp (mLe.kp (mLe.kp (mLe.kp (mLe.kp (mLe.kp (mLe.kp (mLe.sk mLe.nl)))))))))) (e_X12_holdsLine_125  h hk)
              · refine ev_goF kc_248 4 (t := 124) (e := 122) (L' := [some (.ref 215), none, some (.int l2), some (.int (l3 + (-1 : Int32))), some (.int l4), some (.int l5), some (.int (M0 216 (ix ((473 : Int32) + ((2 : Int32) * l5))))), some (.int (M0 225 (ix ((l3 + (-1 : Int32)) - (1 : Int32))))), some (.int (M0 225 (ix (l3 + (-1 : Int32))))), none]) (st' := []) rfl hb17 ?_
                refine ev_go kc_248 2 (i' := 125) (L' := [some (.ref 215), none, some (.int l2), some (.int (l3 + (-1 : Int32))), some (.int l4), some (.int l5), some (.int (M0 216 (ix ((473 : Int32) + ((2 : Int32) * l5))))), some (.int (M0 225 (ix ((l3 + (-1 : Int32)) - (1 : Int32))))), some (.int (M0 225 (ix (l3 + (-1 : Int32))))), none]) (st' := [.int (1 : Int32)]) (M' := M0) rfl ?_
                exact Ev.forget (mLe.kp (mLe.sk (mLe.kp (mLe.kp (mLe.kp (mLe.kp (mLe.kp (mLe.kp (mLe.kp (mLe.sk mLe.nl)))))))))) (e_X12_holdsLine_125  h hk)
            · refine ev_goF kc_248 3 (t := 118) (e := 109) (L' := [some (.ref 215), none, some (.int l2), some (.int (l3 + (-1 : Int32))), some (.int l4), some (.int l5), some (.int (M0 216 (ix ((473 : Int32) + ((2 : Int32) * l5))))), some (.int (M0 225 (ix ((l3 + (-1 : Int32)) - (1 : Int32))))), some (.int (M0 225 (ix (l3 + (-1 : Int32))))), none]) (st' := []) rfl hb16 ?_
              rcases o_bif h with ⟨hb18, h⟩ | ⟨hb18, h⟩
              · refine ev_goT kc_248 5 (t := 116) (e := 114) (L' := [some (.ref 215), none, some (.int l2), some (.int (l3 + (-1 : Int32))), some (.int l4), some (.int l5), some (.int (M0 216 (ix ((473 : Int32) + ((2 : Int32) * l5))))), some (.int (M0 225 (ix ((l3 + (-1 : Int32)) - (1 : Int32))))), some (.int (M0 225 (ix (l3 + (-1 : Int32))))), none]) (st' := []) rfl hb18 ?_
                refine ev_go kc_248 2 (i' := 125) (L' := [some (.ref 215), none, some (.int l2), some (.int (l3 + (-1 : Int32))), some (.int l4), some (.int l5), some (.int (M0 216 (ix ((473 : Int32) + ((2 : Int32) * l5))))), some (.int (M0 225 (ix ((l3 + (-1 : Int32)) - (1 : Int32))))), some (.int (M0 225 (ix (l3 + (-1 : Int32))))), none]) (st' := [.int (0 : Int32)]) (M' := M0) rfl ?_
                exact Ev.forget (mLe.kp (mLe.sk (mLe.kp (mLe.kp (mLe.kp (mLe.kp (mLe.kp (mLe.kp (mLe.kp (mLe.sk mLe.nl)))))))))) (e_X12_holdsLine_125  h hk)
              · refine ev_goF kc_248 5 (t := 116) (e := 114) (L' := [some (.ref 215), none, some (.int l2), some (.int (l3 + (-1 : Int32))), some (.int l4), some (.int l5), some (.int (M0 216 (ix ((473 : Int32) + ((2 : Int32) * l5))))), some (.int (M0 225 (ix ((l3 + (-1 : Int32)) - (1 : Int32))))), some (.int (M0 225 (ix (l3 + (-1 : Int32))))), none]) (st' := []) rfl hb18 ?_
                refine ev_go kc_248 2 (i' := 125) (L' := [some (.ref 215), none, some (.int l2), some (.int (l3 + (-1 : Int32))), some (.int l4), some (.int l5), some (.int (M0 216 (ix ((473 : Int32) + ((2 : Int32) * l5))))), some (.int (M0 225 (ix ((l3 + (-1 : Int32)) - (1 : Int32))))), some (.int (M0 225 (ix (l3 + (-1 : Int32))))), none]) (st' := [.int (1 : Int32)]) (M' := M0) rfl ?_
                exact Ev.forget (mLe.kp (mLe.sk (mLe.kp (mLe.kp (mLe.kp (mLe.kp (mLe.kp (mLe.kp (mLe.kp (mLe.sk mLe.nl)))))))))) (e_X12_holdsLine_125  h hk)
          · refine ev_goF kc_248 3 (t := 106) (e := 99) (L' := [some (.ref 215), none, some (.int l2), some (.int (l3 + (-1 : Int32))), some (.int l4), some (.int l5), some (.int (M0 216 (ix ((473 : Int32) + ((2 : Int32) * l5))))), some (.int (M0 225 (ix ((l3 + (-1 : Int32)) - (1 : Int32))))), some (.int (M0 225 (ix (l3 + (-1 : Int32))))), none]) (st' := []) rfl hb15 ?_
            rcases o_bif h with ⟨hb19, h⟩ | ⟨hb19, h⟩
            · refine ev_goT kc_248 3 (t := 104) (e := 102) (L' := [some (.ref 215), none, some (.int l2), some (.int (l3 + (-1 : Int32))), some (.int l4), some (.int l5), some (.int (M0 216 (ix ((473 : Int32) + ((2 : Int32) * l5))))), some (.int (M0 225 (ix ((l3 + (-1 : Int32)) - (1 : Int32))))), some (.int (M0 225 (ix (l3 + (-1 : Int32))))), none]) (st' := []) rfl hb19 ?_
              refine ev_go kc_248 2 (i' := 125) (L' := [some (.ref 215), none, some (.int l2), some (.int (l3 + (-1 : Int32))), some (.int l4), some (.int l5), some (.int (M0 216 (ix ((473 : Int32) + ((2 : Int32) * l5))))), some (.int (M0 225 (ix ((l3 + (-1 : Int32)) - (1 : Int32))))), some (.int (M0 225 (ix (l3 + (-1 : Int32))))), none]) (st' := [.int (0 : Int32)]) (M' := M0) rfl ?_
              exact Ev.forget (mLe.kp (mLe.sk (mLe.kp (mLe.kp (mLe.kp (mLe.kp (mLe.kp (mLe.kp (mLe.kp (mLe.sk mLe.nl)))))))))) (e_X12_holdsLine_125  h hk)
            · refine ev_goF kc_248 3 (t := 104) (e := 102) (L' := [some (.ref 215), none, some (.int l2), some (.int (l3 + (-1 : Int32))), some (.int l4), some (.int l5), some (.int (M0 216 (ix ((473 : Int32) + ((2 : Int32) * l5))))), some (.int (M0 225 (ix ((l3 + (-1 : Int32)) - (1 : Int32))))), some (.int (M0 225 (ix (l3 + (-1 : Int32))))), none]) (st' := []) rfl hb19 ?_
              refine ev_go kc_248 2 (i' := 125) (L' := [some (.ref 215), none, some (.int l2), some (.int (l3 + (-1 : Int32))), some (.int l4), some (.int l5), some (.int (M0 216 (ix ((473 : Int32) + ((2 : Int32) * l5))))), some (.int (M0 225 (ix ((l3 + (-1 : Int32)) - (1 : Int32))))), some (.int (M0 225 (ix (l3 + (-1 : Int32))))), none]) (st' := [.int (1 : Int32)]) (M' := M0) rfl ?_
              exact Ev.forget (mLe.kp (mLe.sk (mLe.kp (mLe.kp (mLe.kp (mLe.kp (mLe.kp (mLe.kp (mLe.kp (mLe.sk mLe.nl)))))))))) (e_X12_holdsLine_125  h hk)
        · refine ev_goF kc_248 4 (t := 96) (e := 89) (L' := [some (.ref 215), none, some (.int l2), some (.int (l3 + (-1 : Int32))), some (.int l4), some (.int l5), some (.int (M0 216 (ix ((473 : Int32) + ((2 : Int32) * l5))))), some (.int (M0 225 (ix ((l3 + (-1 : Int32)) - (1 : Int32))))), some (.int (M0 225 (ix (l3 + (-1 : Int32))))), none]) (st' := []) rfl hb14 ?_
          rcases o_bif h with ⟨hb20, h⟩ | ⟨hb20, h⟩
          · refine ev_goT kc_248 3 (t := 94) (e := 92) (L' := [some (.ref 215), none, some (.int l2), some (.int (l3 + (-1 : Int32))), some (.int l4), some (.int l5), some (.int (M0 216 (ix ((473 : Int32) + ((2 : Int32) * l5))))), some (.int (M0 225 (ix ((l3 + (-1 : Int32)) - (1 : Int32))))), some (.int (M0 225 (ix (l3 + (-1 : Int32))))), none]) (st' := []) rfl hb20 ?_
            refine ev_go kc_248 2 (i' := 125) (L' := [some (.ref 215), none, some (.int l2), some (.int (l3 + (-1 : Int32))), some (.int l4), some (.int l5), some (.int (M0 216 (ix ((473 : Int32) + ((2 : Int32) * l5))))), some (.int (M0 225 (ix ((l3 + (-1 : Int32)) - (1 : Int32))))), some (.int (M0 225 (ix (l3 + (-1 : Int32))))), none]) (st' := [.int (0 : Int32)]) (M' := M0) rfl ?_
            exact Ev.forget (mLe.kp (mLe.sk (mLe.kp (mLe.kp (mLe.kp (mLe.kp (mLe.kp (mLe.kp (mLe.kp (mLe.sk mLe.nl)))))))))) (e_X12_holdsLine_125  h hk)
          · refine ev_goF kc_248 3 (t := 94) (e := 92) (L' := [some (.ref 215), none, some (.int l2), some (.int (l3 + (-1 : Int32))), some (.int l4), some (.int l5), some (.int (M0 216 (ix ((473 : Int32) + ((2 : Int32) * l5))))), some (.int (M0 225 (ix ((l3 + (-1 : Int32)) - (1 : Int32))))), some (.int (M0 225 (ix (l3 + (-1 : Int32))))), none]) (st' := []) rfl hb20 ?_
            refine ev_go kc_248 2 (i' := 125) (L' := [some (.ref 215), none, some (.int l2), some (.int (l3 + (-1 : Int32))), some (.int l4), some (.int l5), some (.int (M0 216 (ix ((473 : Int32) + ((2 : Int32) * l5))))), some (.int (M0 225 (ix ((l3 + (-1 : Int32)) - (1 : Int32))))), some (.int (M0 225 (ix (l3 + (-1 : Int32))))), none]) (st' := [.int (1 : Int32)]) (M' := M0) rfl ?_
            exact Ev.forget (mLe.kp (mLe.sk (mLe.kp (mLe.kp (mLe.kp (mLe.kp (mLe.kp (mLe.kp (mLe.kp (mLe.sk mLe.nl)))))))))) (e_X12_holdsLine_125  h hk)
      · refine ev_goF kc_248 3 (t := 73) (e := 58) (L' := [some (.ref 215), none, some (.int l2), some (.int l3), some (.int l4), some (.int l5), some (.int (M0 216 (ix ((473 : Int32) + ((2 : Int32) * l5))))), none, none, none]) (st' := []) rfl hb11 ?_
        refine ev_go kc_248 11 (i' := 69) (L' := [some (.ref 215), none, some (.int l2), some (.int l3), some (.int l4), some (.int l5), some (.int (M0 216 (ix ((473 : Int32) + ((2 : Int32) * l5))))), none, none, none]) (st' := [.int (l3 - (1 : Int32)), .ref 225, .int (1 : Int32), .int (l3 - (1 : Int32)), .ref 225]) (M' := M0) rfl ?_
        obtain ⟨hg21, h⟩ := o_gd h
        refine ev_ia kc_248 rfl rfl hg21 ?_
        refine ev_go kc_248 1 (i' := 71) (L' := [some (.ref 215), none, some (.int l2), some (.int l3), some (.int l4), some (.int l5), some (.int (M0 216 (ix ((473 : Int32) + ((2 : Int32) * l5))))), none, none, none]) (st' := [.int ((1 : Int32) - (M0 225 (ix (l3 - (1 : Int32))))), .int (l3 - (1 : Int32)), .ref 225]) (M' := M0) rfl ?_
        obtain ⟨hg23, h⟩ := o_gd h
        obtain ⟨M22, hM22, h⟩ := o_wr h
        refine ev_is kc_248 rfl rfl hg23 hM22 ?_
        refine ev_go kc_248 3 (i' := 15) (L' := [some (.ref 215), none, some (.int l2), some (.int l3), some (.int l4), some (.int (l5 + (1 : Int32))), some (.int (M0 216 (ix ((473 : Int32) + ((2 : Int32) * l5))))), none, none, none]) (st' := []) (M' := M22) rfl ?_
        obtain rfl := Option.some.inj h
        exact Ev.forget (mLe.kp (mLe.sk (mLe.kp (mLe.kp (mLe.kp (mLe.kp (mLe.sk (mLe.sk (mLe.sk (mLe.sk mLe.nl)))))))))) (hk.1 (l3, (l5 + (1 : Int32)), M22) rfl)
    · refine ev_goF kc_248 4 (t := 55) (e := 35) (L' := [some (.ref 215), none, some (.int l2), some (.int l3), some (.int l4), some (.int l5), some (.int (M0 216 (ix ((473 : Int32) + ((2 : Int32) * l5))))), none, none, none]) (st' := []) rfl hb10 ?_
      refine ev_go kc_248 14 (i' := 49) (L' := [some (.ref 215), none, some (.int l2), some (.int l3), some (.int l4), some (.int l5), some (.int (M0 216 (ix ((473 : Int32) + ((2 : Int32) * l5))))), none, none, none]) (st' := [.int (((473 : Int32) + ((2 : Int32) * l5)) + (1 : Int32)), .ref 216, .int (M0 216 (ix ((473 : Int32) + ((2 : Int32) * l5)))), .ref 215, .int l3, .ref 225]) (M' := M0) rfl ?_
      obtain ⟨hg24, h⟩ := o_gd h
      refine ev_ia kc_248 rfl rfl hg24 ?_
      refine ev_go kc_248 1 (i' := 51) (L' := [some (.ref 215), none, some (.int l2), some (.int l3), some (.int l4), some (.int l5), some (.int (M0 216 (ix ((473 : Int32) + ((2 : Int32) * l5))))), none, none, none]) (st' := [.int l2, .int (M0 216 (ix (((473 : Int32) + ((2 : Int32) * l5)) + (1 : Int32)))), .int (M0 216 (ix ((473 : Int32) + ((2 : Int32) * l5)))), .ref 215, .int l3, .ref 225]) (M' := M0) rfl ?_
      obtain ⟨v25, hc25, h⟩ := o_b1 h
      refine ev_cl0 (ins := .invokevirtual 313) kc_248 rfl rfl (a := 247) (as := [.ref 215, .int (M0 216 (ix ((473 : Int32) + ((2 : Int32) * l5)))), .int (M0 216 (ix (((473 : Int32) + ((2 : Int32) * l5)) + (1 : Int32)))), .int l2]) (rest := [.int l3, .ref 225]) rfl rfl (Cs.deep (c_X12_factOf (M0 := M0) hc25) (by decide)) ?_
      obtain ⟨hg27, h⟩ := o_gd h
      obtain ⟨M26, hM26, h⟩ := o_wr h
      refine ev_is kc_248 rfl rfl hg27 hM26 ?_
      refine ev_go kc_248 4 (i' := 15) (L' := [some (.ref 215), none, some (.int l2), some (.int (l3 + (1 : Int32))), some (.int l4), some (.int (l5 + (1 : Int32))), some (.int (M0 216 (ix ((473 : Int32) + ((2 : Int32) * l5))))), none, none, none]) (st' := []) (M' := M26) rfl ?_
      obtain rfl := Option.some.inj h
      exact Ev.forget (mLe.kp (mLe.sk (mLe.kp (mLe.kp (mLe.kp (mLe.kp (mLe.sk (mLe.sk (mLe.sk (mLe.sk mLe.nl)))))))))) (hk.1 ((l3 + (1 : Int32)), (l5 + (1 : Int32)), M26) rfl)
def f_X12_holdsLine_l15 (l2 : Int32) (l4 : Int32) (l3 : Int32) (l5 : Int32) (M0 : mM) : Option (Bool × mM) :=
  wh 100000 (fun s : Int32 × Int32 × mM => f_X12_holdsLine_15 l2 s.1 l4 s.2.1 s.2.2) (l3, l5, M0)
theorem e_X12_holdsLine_l15 {l2 : Int32} {l3 : Int32} {l4 : Int32} {l5 : Int32} {M0 : mM} {R : mZ} {out : (Bool × mM)}  (h : f_X12_holdsLine_l15 l2 l4 l3 l5 M0 = some out) (hk : R = emW eB out) : Ev (9) 248 15 [some (.ref 215), none, some (.int l2), some (.int l3), some (.int l4), some (.int l5), none, none, none, none] [] M0 R := by
  unfold f_X12_holdsLine_l15 at h
  exact wh_ev (P := fun s : Int32 × Int32 × mM => Ev (9) 248 15 [some (.ref 215), none, some (.int l2), some (.int s.1), some (.int l4), some (.int s.2.1), none, none, none, none] [] s.2.2 R) (Q := fun e : (Bool × mM) => R = emW eB e) (fun s o hb h1 h2 => e_X12_holdsLine_15  hb ⟨h1, h2⟩) 100000 _ _ h hk
def f_X12_holdsLine (p1 : Int32) (p2 : Int32) (M0 : mM) : Option (Bool × mM) :=
  gd (mIn (((425 : Int32) + ((4 : Int32) * p1)) + (2 : Int32)) 2122) (f_X12_holdsLine_l15 p2 ((425 : Int32) + ((4 : Int32) * p1)) (0 : Int32) (M0 216 (ix (((425 : Int32) + ((4 : Int32) * p1)) + (2 : Int32)))) M0)
set_option maxRecDepth 8000 in
theorem c_X12_holdsLine {p1 : Int32} {p2 : Int32} {M0 : mM} {out : (Bool × mM)} (h : f_X12_holdsLine p1 p2 M0 = some out) : Cs (9) 248 [.ref 215, .int p1, .int p2] M0 (emW eB out) := by
  generalize hk : emW eB out = R
  replace hk := hk.symm
  unfold f_X12_holdsLine at h
  show Ev (9) 248 0 [some (.ref 215), some (.int p1), some (.int p2), none, none, none, none, none, none, none] [] M0 R
  refine ev_go kc_248 13 (i' := 13) (L' := [some (.ref 215), some (.int p1), some (.int p2), some (.int (0 : Int32)), some (.int ((425 : Int32) + ((4 : Int32) * p1))), none, none, none, none, none]) (st' := [.int (((425 : Int32) + ((4 : Int32) * p1)) + (2 : Int32)), .ref 216]) (M' := M0) rfl ?_
  obtain ⟨hg28, h⟩ := o_gd h
  refine ev_ia kc_248 rfl rfl hg28 ?_
  refine ev_go kc_248 1 (i' := 15) (L' := [some (.ref 215), some (.int p1), some (.int p2), some (.int (0 : Int32)), some (.int ((425 : Int32) + ((4 : Int32) * p1))), some (.int (M0 216 (ix (((425 : Int32) + ((4 : Int32) * p1)) + (2 : Int32))))), none, none, none, none]) (st' := []) (M' := M0) rfl ?_
  exact Ev.forget (mLe.kp (mLe.sk (mLe.kp (mLe.kp (mLe.kp (mLe.kp (mLe.sk (mLe.sk (mLe.sk (mLe.sk mLe.nl)))))))))) (e_X12_holdsLine_l15  h hk)
