/-! the methods, by program -/
/-- WakeTower$Roster.fewestOf(II)I: 46, R -/
theorem kc_46 : mKc 46 = k_X5_fewestOf := rfl
def f_X5_fewestOf (p1 : Int32) (p2 : Int32) (M0 : mM) : Option Int32 :=
  bif decide (((p1 * (256 : Int32)) + p2) < 0) then (some (10000 : Int32)) else (bif decide ((nI 3328) ≤ ((p1 * (256 : Int32)) + p2)) then (some (10000 : Int32)) else (gd (mIn ((p1 * (256 : Int32)) + p2) 3328) (some (M0 12 (ix ((p1 * (256 : Int32)) + p2))))))
set_option maxRecDepth 8000 in
theorem c_X5_fewestOf {p1 : Int32} {p2 : Int32} {M0 : mM} {out : Int32} (h : f_X5_fewestOf p1 p2 M0 = some out) : Cs (0) 46 [.ref 10, .int p1, .int p2] M0 (emR eI M0 out) := by
  generalize hk : emR eI M0 out = R
  replace hk := hk.symm
  unfold f_X5_fewestOf at h
  show Ev (0) 46 0 [some (.ref 10), some (.int p1), some (.int p2), none] [] M0 R
  rcases o_bif h with ⟨hb1, h⟩ | ⟨hb1, h⟩
  · refine ev_goT kc_46 8 (t := 18) (e := 8) (L' := [some (.ref 10), some (.int p1), some (.int p2), some (.int ((p1 * (256 : Int32)) + p2))]) (st' := []) rfl hb1 ?_
    refine ev_go kc_46 1 (i' := 19) (L' := [some (.ref 10), some (.int p1), some (.int p2), some (.int ((p1 * (256 : Int32)) + p2))]) (st' := [.int (10000 : Int32)]) (M' := M0) rfl ?_
    obtain rfl := Option.some.inj h
    rw [hk]
    exact ev_ret kc_46 rfl rfl rfl
  · refine ev_goF kc_46 8 (t := 18) (e := 8) (L' := [some (.ref 10), some (.int p1), some (.int p2), some (.int ((p1 * (256 : Int32)) + p2))]) (st' := []) rfl hb1 ?_
    refine ev_go kc_46 3 (i' := 11) (L' := [some (.ref 10), some (.int p1), some (.int p2), some (.int ((p1 * (256 : Int32)) + p2))]) (st' := [.ref 12, .int ((p1 * (256 : Int32)) + p2)]) (M' := M0) rfl ?_
    refine ev_al kc_46 rfl rfl rfl ?_
    rcases o_bif h with ⟨hb2, h⟩ | ⟨hb2, h⟩
    · refine ev_goT kc_46 1 (t := 18) (e := 13) (L' := [some (.ref 10), some (.int p1), some (.int p2), some (.int ((p1 * (256 : Int32)) + p2))]) (st' := []) rfl hb2 ?_
      refine ev_go kc_46 1 (i' := 19) (L' := [some (.ref 10), some (.int p1), some (.int p2), some (.int ((p1 * (256 : Int32)) + p2))]) (st' := [.int (10000 : Int32)]) (M' := M0) rfl ?_
      obtain rfl := Option.some.inj h
      rw [hk]
      exact ev_ret kc_46 rfl rfl rfl
    · refine ev_goF kc_46 1 (t := 18) (e := 13) (L' := [some (.ref 10), some (.int p1), some (.int p2), some (.int ((p1 * (256 : Int32)) + p2))]) (st' := []) rfl hb2 ?_
      refine ev_go kc_46 3 (i' := 16) (L' := [some (.ref 10), some (.int p1), some (.int p2), some (.int ((p1 * (256 : Int32)) + p2))]) (st' := [.int ((p1 * (256 : Int32)) + p2), .ref 12]) (M' := M0) rfl ?_
      obtain ⟨hg3, h⟩ := o_gd h
      refine ev_ia kc_46 rfl rfl hg3 ?_
      refine ev_go kc_46 1 (i' := 19) (L' := [some (.ref 10), some (.int p1), some (.int p2), some (.int ((p1 * (256 : Int32)) + p2))]) (st' := [.int (M0 12 (ix ((p1 * (256 : Int32)) + p2)))]) (M' := M0) rfl ?_
      obtain rfl := Option.some.inj h
      rw [hk]
      exact ev_ret kc_46 rfl rfl rfl
/-- WakeTower$Roster.costOf(III)I: 47, R -/
theorem kc_47 : mKc 47 = k_X5_costOf := rfl
def f_X5_costOf (p1 : Int32) (p2 : Int32) (p3 : Int32) (M0 : mM) : Option Int32 :=
  bif (f_X11_within p1 (M0 10 2)) then (bif decide (p1 < 0) then (some (10000 : Int32)) else (bif decide ((256 : Int32) ≤ p1) then (some (10000 : Int32)) else (gd (mIn p1 256) (bif decide (p3 ≤ (M0 11 (ix p1))) then (b1 (f_X5_fewestOf (p2 - (1 : Int32)) ((M0 10 2) &&& (p1 ^^^ (-1 : Int32))) M0) (fun v8 => some ((f_J6_bitCount_0f7a4 p1) + v8))) else (some (10000 : Int32)))))) else (some (10000 : Int32))
set_option maxRecDepth 8000 in
theorem c_X5_costOf {p1 : Int32} {p2 : Int32} {p3 : Int32} {M0 : mM} {out : Int32} (h : f_X5_costOf p1 p2 p3 M0 = some out) : Cs (1) 47 [.ref 10, .int p1, .int p2, .int p3] M0 (emR eI M0 out) := by
  generalize hk : emR eI M0 out = R
  replace hk := hk.symm
  unfold f_X5_costOf at h
  show Ev (1) 47 0 [some (.ref 10), some (.int p1), some (.int p2), some (.int p3)] [] M0 R
  refine ev_go kc_47 3 (i' := 3) (L' := [some (.ref 10), some (.int p1), some (.int p2), some (.int p3)]) (st' := [.int (M0 10 2), .int p1]) (M' := M0) rfl ?_
  refine ev_cl0 (ins := .invokestatic 51) kc_47 rfl rfl (a := 179) (as := [.int p1, .int (M0 10 2)]) (rest := []) rfl rfl (Cs.deep (c_X11_within (M0 := M0)) (by decide)) ?_
  rcases o_bif h with ⟨hb2, h⟩ | ⟨hb2, h⟩
  · refine ev_goF kc_47 1 (t := 16) (e := 5) (L' := [some (.ref 10), some (.int p1), some (.int p2), some (.int p3)]) (st' := []) rfl (mB_e0f hb2) ?_
    rcases o_bif h with ⟨hb3, h⟩ | ⟨hb3, h⟩
    · refine ev_goT kc_47 2 (t := 16) (e := 7) (L' := [some (.ref 10), some (.int p1), some (.int p2), some (.int p3)]) (st' := []) rfl hb3 ?_
      refine ev_go kc_47 1 (i' := 17) (L' := [some (.ref 10), some (.int p1), some (.int p2), some (.int p3)]) (st' := [.int (10000 : Int32)]) (M' := M0) rfl ?_
      obtain rfl := Option.some.inj h
      rw [hk]
      exact ev_ret kc_47 rfl rfl rfl
    · refine ev_goF kc_47 2 (t := 16) (e := 7) (L' := [some (.ref 10), some (.int p1), some (.int p2), some (.int p3)]) (st' := []) rfl hb3 ?_
      rcases o_bif h with ⟨hb4, h⟩ | ⟨hb4, h⟩
      · refine ev_goT kc_47 3 (t := 16) (e := 10) (L' := [some (.ref 10), some (.int p1), some (.int p2), some (.int p3)]) (st' := []) rfl hb4 ?_
        refine ev_go kc_47 1 (i' := 17) (L' := [some (.ref 10), some (.int p1), some (.int p2), some (.int p3)]) (st' := [.int (10000 : Int32)]) (M' := M0) rfl ?_
        obtain rfl := Option.some.inj h
        rw [hk]
        exact ev_ret kc_47 rfl rfl rfl
      · refine ev_goF kc_47 3 (t := 16) (e := 10) (L' := [some (.ref 10), some (.int p1), some (.int p2), some (.int p3)]) (st' := []) rfl hb4 ?_
        refine ev_go kc_47 3 (i' := 13) (L' := [some (.ref 10), some (.int p1), some (.int p2), some (.int p3)]) (st' := [.int p1, .ref 11]) (M' := M0) rfl ?_
        obtain ⟨hg5, h⟩ := o_gd h
        refine ev_ia kc_47 rfl rfl hg5 ?_
        rcases o_bif h with ⟨hb6, h⟩ | ⟨hb6, h⟩
        · refine ev_goT kc_47 2 (t := 18) (e := 16) (L' := [some (.ref 10), some (.int p1), some (.int p2), some (.int p3)]) (st' := []) rfl hb6 ?_
          refine ev_go kc_47 1 (i' := 19) (L' := [some (.ref 10), some (.int p1), some (.int p2), some (.int p3)]) (st' := [.int p1]) (M' := M0) rfl ?_
          refine ev_cl0 (ins := .invokestatic 54) kc_47 rfl rfl (a := 10) (as := [.int p1]) (rest := []) rfl rfl (Cs.deep (c_J6_bitCount_0f7a4 (M0 := M0)) (by decide)) ?_
          refine ev_go kc_47 10 (i' := 30) (L' := [some (.ref 10), some (.int p1), some (.int p2), some (.int p3)]) (st' := [.int ((M0 10 2) &&& (p1 ^^^ (-1 : Int32))), .int (p2 - (1 : Int32)), .ref 10, .int (f_J6_bitCount_0f7a4 p1)]) (M' := M0) rfl ?_
          obtain ⟨v8, hc8, h⟩ := o_b1 h
          refine ev_cl0 (ins := .invokevirtual 30) kc_47 rfl rfl (a := 46) (as := [.ref 10, .int (p2 - (1 : Int32)), .int ((M0 10 2) &&& (p1 ^^^ (-1 : Int32)))]) (rest := [.int (f_J6_bitCount_0f7a4 p1)]) rfl rfl (Cs.deep (c_X5_fewestOf (M0 := M0) hc8) (by decide)) ?_
          refine ev_go kc_47 1 (i' := 32) (L' := [some (.ref 10), some (.int p1), some (.int p2), some (.int p3)]) (st' := [.int ((f_J6_bitCount_0f7a4 p1) + v8)]) (M' := M0) rfl ?_
          obtain rfl := Option.some.inj h
          rw [hk]
          exact ev_ret kc_47 rfl rfl rfl
        · refine ev_goF kc_47 2 (t := 18) (e := 16) (L' := [some (.ref 10), some (.int p1), some (.int p2), some (.int p3)]) (st' := []) rfl hb6 ?_
          refine ev_go kc_47 1 (i' := 17) (L' := [some (.ref 10), some (.int p1), some (.int p2), some (.int p3)]) (st' := [.int (10000 : Int32)]) (M' := M0) rfl ?_
          obtain rfl := Option.some.inj h
          rw [hk]
          exact ev_ret kc_47 rfl rfl rfl
  · refine ev_goT kc_47 1 (t := 16) (e := 5) (L' := [some (.ref 10), some (.int p1), some (.int p2), some (.int p3)]) (st' := []) rfl (mB_e0t hb2) ?_
    refine ev_go kc_47 1 (i' := 17) (L' := [some (.ref 10), some (.int p1), some (.int p2), some (.int p3)]) (st' := [.int (10000 : Int32)]) (M' := M0) rfl ?_
    obtain rfl := Option.some.inj h
    rw [hk]
    exact ev_ret kc_47 rfl rfl rfl
/-- WakeTower$Roster.fillHour(II)V: 45, W -/
theorem kc_45 : mKc 45 = k_X5_fillHour := rfl
def f_X5_fillHour_27 (l1 : Int32) (l3 : Int32) (l4 : Int32) (M0 : mM) : Option (((Unit × mM) ⊕ (Int32 × mM)) ⊕ (Int32 × mM)) :=
  bif decide ((256 : Int32) ≤ l4) then (some (.inl (.inr ((l3 + (1 : Int32)), M0)))) else (bif (f_X11_has l4 l3) then (gd (mIn ((l1 * (256 : Int32)) + l4) 3328) (b1 (f_X5_fewestOf l1 (l4 &&& ((f_X11_bit l3) ^^^ (-1 : Int32))) M0) (fun v6 => gd (mIn ((l1 * (256 : Int32)) + l4) 3328) (wr (mst M0 12 (ix ((l1 * (256 : Int32)) + l4)) (mMin (M0 12 (ix ((l1 * (256 : Int32)) + l4))) v6)) (fun M7 => some (.inr ((l4 + (1 : Int32)), M7))))))) else (some (.inr ((l4 + (1 : Int32)), M0))))
set_option maxRecDepth 8000 in
theorem e_X5_fillHour_27 {l1 : Int32} {l3 : Int32} {l4 : Int32} {M0 : mM} {R : mZ} {out : (((Unit × mM) ⊕ (Int32 × mM)) ⊕ (Int32 × mM))}  (h : f_X5_fillHour_27 l1 l3 l4 M0 = some out) (hk : (∀ s' : Int32 × mM, out = .inr s' → Ev (8) 45 27 [some (.ref 10), some (.int l1), none, some (.int l3), some (.int s'.1), none] [] (s'.2) R) ∧ (∀ e2 : ((Unit × mM) ⊕ (Int32 × mM)), out = .inl e2 → (∀ s' : Int32 × mM, e2 = .inr s' → Ev (8) 45 22 [some (.ref 10), some (.int l1), none, some (.int s'.1), none, none] [] (s'.2) R) ∧ (∀ e1 : (Unit × mM), e2 = .inl e1 → R = emW eU e1))) : Ev (8) 45 27 [some (.ref 10), some (.int l1), none, some (.int l3), some (.int l4), none] [] M0 R := by
  unfold f_X5_fillHour_27 at h
  rcases o_bif h with ⟨hb1, h⟩ | ⟨hb1, h⟩
  · refine ev_goT kc_45 3 (t := 60) (e := 30) (L' := [some (.ref 10), some (.int l1), none, some (.int l3), some (.int l4), none]) (st' := []) rfl hb1 ?_
    refine ev_go kc_45 2 (i' := 22) (L' := [some (.ref 10), some (.int l1), none, some (.int (l3 + (1 : Int32))), some (.int l4), none]) (st' := []) (M' := M0) rfl ?_
    obtain rfl := Option.some.inj h
    exact Ev.forget (mLe.kp (mLe.kp (mLe.sk (mLe.kp (mLe.sk (mLe.sk mLe.nl)))))) ((hk.2 _ rfl).1 ((l3 + (1 : Int32)), M0) rfl)
  · refine ev_goF kc_45 3 (t := 60) (e := 30) (L' := [some (.ref 10), some (.int l1), none, some (.int l3), some (.int l4), none]) (st' := []) rfl hb1 ?_
    refine ev_go kc_45 2 (i' := 32) (L' := [some (.ref 10), some (.int l1), none, some (.int l3), some (.int l4), none]) (st' := [.int l3, .int l4]) (M' := M0) rfl ?_
    refine ev_cl0 (ins := .invokestatic 34) kc_45 rfl rfl (a := 178) (as := [.int l4, .int l3]) (rest := []) rfl rfl (Cs.deep (c_X11_has (M0 := M0)) (by decide)) ?_
    rcases o_bif h with ⟨hb3, h⟩ | ⟨hb3, h⟩
    · refine ev_goF kc_45 1 (t := 58) (e := 34) (L' := [some (.ref 10), some (.int l1), none, some (.int l3), some (.int l4), none]) (st' := []) rfl (mB_e0f hb3) ?_
      refine ev_go kc_45 12 (i' := 46) (L' := [some (.ref 10), some (.int l1), none, some (.int l3), some (.int l4), some (.int ((l1 * (256 : Int32)) + l4))]) (st' := [.int ((l1 * (256 : Int32)) + l4), .ref 12, .int ((l1 * (256 : Int32)) + l4), .ref 12]) (M' := M0) rfl ?_
      obtain ⟨hg4, h⟩ := o_gd h
      refine ev_ia kc_45 rfl rfl hg4 ?_
      refine ev_go kc_45 4 (i' := 51) (L' := [some (.ref 10), some (.int l1), none, some (.int l3), some (.int l4), some (.int ((l1 * (256 : Int32)) + l4))]) (st' := [.int l3, .int l4, .int l1, .ref 10, .int (M0 12 (ix ((l1 * (256 : Int32)) + l4))), .int ((l1 * (256 : Int32)) + l4), .ref 12]) (M' := M0) rfl ?_
      refine ev_cl0 (ins := .invokestatic 42) kc_45 rfl rfl (a := 177) (as := [.int l3]) (rest := [.int l4, .int l1, .ref 10, .int (M0 12 (ix ((l1 * (256 : Int32)) + l4))), .int ((l1 * (256 : Int32)) + l4), .ref 12]) rfl rfl (Cs.deep (c_X11_bit (M0 := M0)) (by decide)) ?_
      refine ev_go kc_45 3 (i' := 55) (L' := [some (.ref 10), some (.int l1), none, some (.int l3), some (.int l4), some (.int ((l1 * (256 : Int32)) + l4))]) (st' := [.int (l4 &&& ((f_X11_bit l3) ^^^ (-1 : Int32))), .int l1, .ref 10, .int (M0 12 (ix ((l1 * (256 : Int32)) + l4))), .int ((l1 * (256 : Int32)) + l4), .ref 12]) (M' := M0) rfl ?_
      obtain ⟨v6, hc6, h⟩ := o_b1 h
      refine ev_cl0 (ins := .invokevirtual 30) kc_45 rfl rfl (a := 46) (as := [.ref 10, .int l1, .int (l4 &&& ((f_X11_bit l3) ^^^ (-1 : Int32)))]) (rest := [.int (M0 12 (ix ((l1 * (256 : Int32)) + l4))), .int ((l1 * (256 : Int32)) + l4), .ref 12]) rfl rfl (Cs.deep (c_X5_fewestOf (M0 := M0) hc6) (by decide)) ?_
      refine ev_pm kc_45 rfl rfl rfl rfl (as := [.int (M0 12 (ix ((l1 * (256 : Int32)) + l4))), .int v6]) (rest := [.int ((l1 * (256 : Int32)) + l4), .ref 12]) rfl rfl rfl (v := some (mMin (M0 12 (ix ((l1 * (256 : Int32)) + l4))) v6)) rfl ?_
      obtain ⟨hg8, h⟩ := o_gd h
      obtain ⟨M7, hM7, h⟩ := o_wr h
      refine ev_is kc_45 rfl rfl hg8 hM7 ?_
      refine ev_go kc_45 2 (i' := 27) (L' := [some (.ref 10), some (.int l1), none, some (.int l3), some (.int (l4 + (1 : Int32))), some (.int ((l1 * (256 : Int32)) + l4))]) (st' := []) (M' := M7) rfl ?_
      obtain rfl := Option.some.inj h
      exact Ev.forget (mLe.kp (mLe.kp (mLe.sk (mLe.kp (mLe.kp (mLe.sk mLe.nl)))))) (hk.1 ((l4 + (1 : Int32)), M7) rfl)
    · refine ev_goT kc_45 1 (t := 58) (e := 34) (L' := [some (.ref 10), some (.int l1), none, some (.int l3), some (.int l4), none]) (st' := []) rfl (mB_e0t hb3) ?_
      refine ev_go kc_45 2 (i' := 27) (L' := [some (.ref 10), some (.int l1), none, some (.int l3), some (.int (l4 + (1 : Int32))), none]) (st' := []) (M' := M0) rfl ?_
      obtain rfl := Option.some.inj h
      exact Ev.forget (mLe.kp (mLe.kp (mLe.sk (mLe.kp (mLe.kp (mLe.sk mLe.nl)))))) (hk.1 ((l4 + (1 : Int32)), M0) rfl)
def f_X5_fillHour_l27 (l1 : Int32) (l3 : Int32) (l4 : Int32) (M0 : mM) : Option ((Unit × mM) ⊕ (Int32 × mM)) :=
  wh 100000 (fun s : Int32 × mM => f_X5_fillHour_27 l1 l3 s.1 s.2) (l4, M0)
theorem e_X5_fillHour_l27 {l1 : Int32} {l3 : Int32} {l4 : Int32} {M0 : mM} {R : mZ} {out : ((Unit × mM) ⊕ (Int32 × mM))}  (h : f_X5_fillHour_l27 l1 l3 l4 M0 = some out) (hk : (∀ s' : Int32 × mM, out = .inr s' → Ev (8) 45 22 [some (.ref 10), some (.int l1), none, some (.int s'.1), none, none] [] (s'.2) R) ∧ (∀ e1 : (Unit × mM), out = .inl e1 → R = emW eU e1)) : Ev (8) 45 27 [some (.ref 10), some (.int l1), none, some (.int l3), some (.int l4), none] [] M0 R := by
  unfold f_X5_fillHour_l27 at h
  exact wh_ev (P := fun s : Int32 × mM => Ev (8) 45 27 [some (.ref 10), some (.int l1), none, some (.int l3), some (.int s.1), none] [] s.2 R) (Q := fun e : ((Unit × mM) ⊕ (Int32 × mM)) => (∀ s' : Int32 × mM, e = .inr s' → Ev (8) 45 22 [some (.ref 10), some (.int l1), none, some (.int s'.1), none, none] [] (s'.2) R) ∧ (∀ e1 : (Unit × mM), e = .inl e1 → R = emW eU e1)) (fun s o hb h1 h2 => e_X5_fillHour_27  hb ⟨h1, h2⟩) 100000 _ _ h hk
def f_X5_fillHour_22 (l1 : Int32) (l3 : Int32) (M0 : mM) : Option ((Unit × mM) ⊕ (Int32 × mM)) :=
  bif decide ((8 : Int32) ≤ l3) then (some (.inl ((), M0))) else (f_X5_fillHour_l27 l1 l3 (0 : Int32) M0)
set_option maxRecDepth 8000 in
theorem e_X5_fillHour_22 {l1 : Int32} {l3 : Int32} {M0 : mM} {R : mZ} {out : ((Unit × mM) ⊕ (Int32 × mM))}  (h : f_X5_fillHour_22 l1 l3 M0 = some out) (hk : (∀ s' : Int32 × mM, out = .inr s' → Ev (8) 45 22 [some (.ref 10), some (.int l1), none, some (.int s'.1), none, none] [] (s'.2) R) ∧ (∀ e1 : (Unit × mM), out = .inl e1 → R = emW eU e1)) : Ev (8) 45 22 [some (.ref 10), some (.int l1), none, some (.int l3), none, none] [] M0 R := by
  unfold f_X5_fillHour_22 at h
  rcases o_bif h with ⟨hb9, h⟩ | ⟨hb9, h⟩
  · refine ev_goT kc_45 3 (t := 62) (e := 25) (L' := [some (.ref 10), some (.int l1), none, some (.int l3), none, none]) (st' := []) rfl hb9 ?_
    obtain rfl := Option.some.inj h
    rw [show _ from (hk.2 _ rfl)]
    exact ev_vret kc_45 rfl rfl rfl
  · refine ev_goF kc_45 3 (t := 62) (e := 25) (L' := [some (.ref 10), some (.int l1), none, some (.int l3), none, none]) (st' := []) rfl hb9 ?_
    refine ev_go kc_45 2 (i' := 27) (L' := [some (.ref 10), some (.int l1), none, some (.int l3), some (.int (0 : Int32)), none]) (st' := []) (M' := M0) rfl ?_
    exact Ev.forget (mLe.kp (mLe.kp (mLe.sk (mLe.kp (mLe.kp (mLe.sk mLe.nl)))))) (e_X5_fillHour_l27  h hk)
def f_X5_fillHour_l22 (l1 : Int32) (l3 : Int32) (M0 : mM) : Option (Unit × mM) :=
  wh 100000 (fun s : Int32 × mM => f_X5_fillHour_22 l1 s.1 s.2) (l3, M0)
theorem e_X5_fillHour_l22 {l1 : Int32} {l3 : Int32} {M0 : mM} {R : mZ} {out : (Unit × mM)}  (h : f_X5_fillHour_l22 l1 l3 M0 = some out) (hk : R = emW eU out) : Ev (8) 45 22 [some (.ref 10), some (.int l1), none, some (.int l3), none, none] [] M0 R := by
  unfold f_X5_fillHour_l22 at h
  exact wh_ev (P := fun s : Int32 × mM => Ev (8) 45 22 [some (.ref 10), some (.int l1), none, some (.int s.1), none, none] [] s.2 R) (Q := fun e : (Unit × mM) => R = emW eU e) (fun s o hb h1 h2 => e_X5_fillHour_22  hb ⟨h1, h2⟩) 100000 _ _ h hk
def f_X5_fillHour_2 (l1 : Int32) (l2 : Int32) (l3 : Int32) (M0 : mM) : Option ((Unit × mM) ⊕ (Int32 × mM)) :=
  bif decide ((256 : Int32) ≤ l3) then (b1 (f_X5_fillHour_l22 l1 (0 : Int32) M0) (fun r11 => some (.inl r11))) else (b1 (f_X5_costOf l3 l1 l2 M0) (fun v12 => gd (mIn ((l1 * (256 : Int32)) + l3) 3328) (wr (mst M0 12 (ix ((l1 * (256 : Int32)) + l3)) v12) (fun M13 => some (.inr ((l3 + (1 : Int32)), M13))))))
set_option maxRecDepth 8000 in
theorem e_X5_fillHour_2 {l1 : Int32} {l2 : Int32} {l3 : Int32} {M0 : mM} {R : mZ} {out : ((Unit × mM) ⊕ (Int32 × mM))}  (h : f_X5_fillHour_2 l1 l2 l3 M0 = some out) (hk : (∀ s' : Int32 × mM, out = .inr s' → Ev (8) 45 2 [some (.ref 10), some (.int l1), some (.int l2), some (.int s'.1), none, none] [] (s'.2) R) ∧ (∀ e1 : (Unit × mM), out = .inl e1 → R = emW eU e1)) : Ev (8) 45 2 [some (.ref 10), some (.int l1), some (.int l2), some (.int l3), none, none] [] M0 R := by
  unfold f_X5_fillHour_2 at h
  rcases o_bif h with ⟨hb10, h⟩ | ⟨hb10, h⟩
  · refine ev_goT kc_45 3 (t := 20) (e := 5) (L' := [some (.ref 10), some (.int l1), some (.int l2), some (.int l3), none, none]) (st' := []) rfl hb10 ?_
    refine ev_go kc_45 2 (i' := 22) (L' := [some (.ref 10), some (.int l1), some (.int l2), some (.int (0 : Int32)), none, none]) (st' := []) (M' := M0) rfl ?_
    obtain ⟨r11, hr11, h⟩ := o_b1 h
    obtain rfl := Option.some.inj h
    exact Ev.forget (mLe.kp (mLe.kp (mLe.sk (mLe.kp (mLe.sk (mLe.sk mLe.nl)))))) (e_X5_fillHour_l22  hr11 (hk.2 _ rfl))
  · refine ev_goF kc_45 3 (t := 20) (e := 5) (L' := [some (.ref 10), some (.int l1), some (.int l2), some (.int l3), none, none]) (st' := []) rfl hb10 ?_
    refine ev_go kc_45 11 (i' := 16) (L' := [some (.ref 10), some (.int l1), some (.int l2), some (.int l3), none, none]) (st' := [.int l2, .int l1, .int l3, .ref 10, .int ((l1 * (256 : Int32)) + l3), .ref 12]) (M' := M0) rfl ?_
    obtain ⟨v12, hc12, h⟩ := o_b1 h
    refine ev_cl0 (ins := .invokevirtual 38) kc_45 rfl rfl (a := 47) (as := [.ref 10, .int l3, .int l1, .int l2]) (rest := [.int ((l1 * (256 : Int32)) + l3), .ref 12]) rfl rfl (Cs.deep (c_X5_costOf (M0 := M0) hc12) (by decide)) ?_
    obtain ⟨hg14, h⟩ := o_gd h
    obtain ⟨M13, hM13, h⟩ := o_wr h
    refine ev_is kc_45 rfl rfl hg14 hM13 ?_
    refine ev_go kc_45 2 (i' := 2) (L' := [some (.ref 10), some (.int l1), some (.int l2), some (.int (l3 + (1 : Int32))), none, none]) (st' := []) (M' := M13) rfl ?_
    obtain rfl := Option.some.inj h
    exact Ev.forget (mLe.kp (mLe.kp (mLe.kp (mLe.kp (mLe.sk (mLe.sk mLe.nl)))))) (hk.1 ((l3 + (1 : Int32)), M13) rfl)
def f_X5_fillHour_l2 (l1 : Int32) (l2 : Int32) (l3 : Int32) (M0 : mM) : Option (Unit × mM) :=
  wh 100000 (fun s : Int32 × mM => f_X5_fillHour_2 l1 l2 s.1 s.2) (l3, M0)
theorem e_X5_fillHour_l2 {l1 : Int32} {l2 : Int32} {l3 : Int32} {M0 : mM} {R : mZ} {out : (Unit × mM)}  (h : f_X5_fillHour_l2 l1 l2 l3 M0 = some out) (hk : R = emW eU out) : Ev (8) 45 2 [some (.ref 10), some (.int l1), some (.int l2), some (.int l3), none, none] [] M0 R := by
  unfold f_X5_fillHour_l2 at h
  exact wh_ev (P := fun s : Int32 × mM => Ev (8) 45 2 [some (.ref 10), some (.int l1), some (.int l2), some (.int s.1), none, none] [] s.2 R) (Q := fun e : (Unit × mM) => R = emW eU e) (fun s o hb h1 h2 => e_X5_fillHour_2  hb ⟨h1, h2⟩) 100000 _ _ h hk
def f_X5_fillHour (p1 : Int32) (p2 : Int32) (M0 : mM) : Option (Unit × mM) :=
  f_X5_fillHour_l2 p1 p2 (0 : Int32) M0
set_option maxRecDepth 8000 in
theorem c_X5_fillHour {p1 : Int32} {p2 : Int32} {M0 : mM} {out : (Unit × mM)} (h : f_X5_fillHour p1 p2 M0 = some out) : Cs (8) 45 [.ref 10, .int p1, .int p2] M0 (emW eU out) := by
  generalize hk : emW eU out = R
  replace hk := hk.symm
  unfold f_X5_fillHour at h
  show Ev (8) 45 0 [some (.ref 10), some (.int p1), some (.int p2), none, none, none] [] M0 R
  refine ev_go kc_45 2 (i' := 2) (L' := [some (.ref 10), some (.int p1), some (.int p2), some (.int (0 : Int32)), none, none]) (st' := []) (M' := M0) rfl ?_
  exact Ev.forget (mLe.kp (mLe.kp (mLe.kp (mLe.kp (mLe.sk (mLe.sk mLe.nl)))))) (e_X5_fillHour_l2  h hk)
/-- WakeTower$Roster.places([IIII)I: 43, W -/
theorem kc_43 : mKc 43 = k_X5_places := rfl
def f_X5_places_22 (o1 : Nat) (l3 : Int32) (M0 : mM) : Option (Int32 × mM) :=
  b1 (f_X5_fewestOf l3 (M0 10 2) M0) (fun v1 => bif decide ((10000 : Int32) ≤ v1) then (some ((-1 : Int32), M0)) else (some (v1, M0)))
set_option maxRecDepth 8000 in
theorem e_X5_places_22 {o1 : Nat} {l3 : Int32} {M0 : mM} {R : mZ} {out : (Int32 × mM)} (go1 : mA8B o1 = true) (h : f_X5_places_22 o1 l3 M0 = some out) (hk : R = emW eI out) : Ev (9) 43 22 [some (.ref 10), none, none, some (.int l3), none, none] [] M0 R := by
  unfold f_X5_places_22 at h
  refine ev_go kc_43 4 (i' := 26) (L' := [some (.ref 10), none, none, some (.int l3), none, none]) (st' := [.int (M0 10 2), .int l3, .ref 10]) (M' := M0) rfl ?_
  obtain ⟨v1, hc1, h⟩ := o_b1 h
  refine ev_cl0 (ins := .invokevirtual 30) kc_43 rfl rfl (a := 46) (as := [.ref 10, .int l3, .int (M0 10 2)]) (rest := []) rfl rfl (Cs.deep (c_X5_fewestOf (M0 := M0) hc1) (by decide)) ?_
  rcases o_bif h with ⟨hb2, h⟩ | ⟨hb2, h⟩
  · refine ev_goT kc_43 4 (t := 33) (e := 31) (L' := [some (.ref 10), none, none, some (.int l3), none, some (.int v1)]) (st' := []) rfl hb2 ?_
    refine ev_go kc_43 1 (i' := 34) (L' := [some (.ref 10), none, none, some (.int l3), none, some (.int v1)]) (st' := [.int (-1 : Int32)]) (M' := M0) rfl ?_
    obtain rfl := Option.some.inj h
    rw [hk]
    exact ev_ret kc_43 rfl rfl rfl
  · refine ev_goF kc_43 4 (t := 33) (e := 31) (L' := [some (.ref 10), none, none, some (.int l3), none, some (.int v1)]) (st' := []) rfl hb2 ?_
    refine ev_go kc_43 2 (i' := 34) (L' := [some (.ref 10), none, none, some (.int l3), none, some (.int v1)]) (st' := [.int v1]) (M' := M0) rfl ?_
    obtain rfl := Option.some.inj h
    rw [hk]
    exact ev_ret kc_43 rfl rfl rfl
def f_X5_places_10 (o1 : Nat) (l3 : Int32) (l4 : Int32) (l5 : Int32) (M0 : mM) : Option ((Int32 × mM) ⊕ (Int32 × mM)) :=
  bif decide ((12 : Int32) < l5) then (b1 (f_X5_places_22 o1 l3 M0) (fun r4 => some (.inl r4))) else (bif decide (l3 < l5) then (b1 (f_X5_places_22 o1 l3 M0) (fun r6 => some (.inl r6))) else (b2 (f_X5_fillHour l5 l4 M0) (fun v7 M7 => some (.inr ((l5 + (1 : Int32)), M7)))))
set_option maxRecDepth 8000 in
theorem e_X5_places_10 {o1 : Nat} {l3 : Int32} {l4 : Int32} {l5 : Int32} {M0 : mM} {R : mZ} {out : ((Int32 × mM) ⊕ (Int32 × mM))} (go1 : mA8B o1 = true) (h : f_X5_places_10 o1 l3 l4 l5 M0 = some out) (hk : (∀ s' : Int32 × mM, out = .inr s' → Ev (9) 43 10 [some (.ref 10), none, none, some (.int l3), some (.int l4), some (.int s'.1)] [] (s'.2) R) ∧ (∀ e1 : (Int32 × mM), out = .inl e1 → R = emW eI e1)) : Ev (9) 43 10 [some (.ref 10), none, none, some (.int l3), some (.int l4), some (.int l5)] [] M0 R := by
  unfold f_X5_places_10 at h
  rcases o_bif h with ⟨hb3, h⟩ | ⟨hb3, h⟩
  · refine ev_goT kc_43 3 (t := 22) (e := 13) (L' := [some (.ref 10), none, none, some (.int l3), some (.int l4), some (.int l5)]) (st' := []) rfl hb3 ?_
    obtain ⟨r4, hr4, h⟩ := o_b1 h
    obtain rfl := Option.some.inj h
    exact Ev.forget (mLe.kp (mLe.sk (mLe.sk (mLe.kp (mLe.sk (mLe.sk mLe.nl)))))) (e_X5_places_22 go1 hr4 (hk.2 _ rfl))
  · refine ev_goF kc_43 3 (t := 22) (e := 13) (L' := [some (.ref 10), none, none, some (.int l3), some (.int l4), some (.int l5)]) (st' := []) rfl hb3 ?_
    rcases o_bif h with ⟨hb5, h⟩ | ⟨hb5, h⟩
    · refine ev_goT kc_43 3 (t := 22) (e := 16) (L' := [some (.ref 10), none, none, some (.int l3), some (.int l4), some (.int l5)]) (st' := []) rfl hb5 ?_
      obtain ⟨r6, hr6, h⟩ := o_b1 h
      obtain rfl := Option.some.inj h
      exact Ev.forget (mLe.kp (mLe.sk (mLe.sk (mLe.kp (mLe.sk (mLe.sk mLe.nl)))))) (e_X5_places_22 go1 hr6 (hk.2 _ rfl))
    · refine ev_goF kc_43 3 (t := 22) (e := 16) (L' := [some (.ref 10), none, none, some (.int l3), some (.int l4), some (.int l5)]) (st' := []) rfl hb5 ?_
      refine ev_go kc_43 3 (i' := 19) (L' := [some (.ref 10), none, none, some (.int l3), some (.int l4), some (.int l5)]) (st' := [.int l4, .int l5, .ref 10]) (M' := M0) rfl ?_
      obtain ⟨v7, M7, hc7, h⟩ := o_b2 h
      refine ev_cl0 (ins := .invokevirtual 26) kc_43 rfl rfl (a := 45) (as := [.ref 10, .int l5, .int l4]) (rest := []) rfl rfl (Cs.deep (c_X5_fillHour hc7) (by decide)) ?_
      refine ev_go kc_43 2 (i' := 10) (L' := [some (.ref 10), none, none, some (.int l3), some (.int l4), some (.int (l5 + (1 : Int32)))]) (st' := []) (M' := M7) rfl ?_
      obtain rfl := Option.some.inj h
      exact Ev.forget (mLe.kp (mLe.sk (mLe.sk (mLe.kp (mLe.kp (mLe.kp mLe.nl)))))) (hk.1 ((l5 + (1 : Int32)), M7) rfl)
def f_X5_places_l10 (o1 : Nat) (l3 : Int32) (l4 : Int32) (l5 : Int32) (M0 : mM) : Option (Int32 × mM) :=
  wh 100000 (fun s : Int32 × mM => f_X5_places_10 o1 l3 l4 s.1 s.2) (l5, M0)
theorem e_X5_places_l10 {o1 : Nat} {l3 : Int32} {l4 : Int32} {l5 : Int32} {M0 : mM} {R : mZ} {out : (Int32 × mM)} (go1 : mA8B o1 = true) (h : f_X5_places_l10 o1 l3 l4 l5 M0 = some out) (hk : R = emW eI out) : Ev (9) 43 10 [some (.ref 10), none, none, some (.int l3), some (.int l4), some (.int l5)] [] M0 R := by
  unfold f_X5_places_l10 at h
  exact wh_ev (P := fun s : Int32 × mM => Ev (9) 43 10 [some (.ref 10), none, none, some (.int l3), some (.int l4), some (.int s.1)] [] s.2 R) (Q := fun e : (Int32 × mM) => R = emW eI e) (fun s o hb h1 h2 => e_X5_places_10 go1 hb ⟨h1, h2⟩) 100000 _ _ h hk
def f_X5_places (o1 : Nat) (p2 : Int32) (p3 : Int32) (p4 : Int32) (M0 : mM) : Option (Int32 × mM) :=
  gd (mA8B o1) (wr (mst M0 10 2 (p2 &&& (255 : Int32))) (fun M8 => b2 (f_X5_sumUp o1 M8) (fun v9 M9 => f_X5_places_l10 o1 p3 p4 (1 : Int32) M9)))
set_option maxRecDepth 8000 in
theorem c_X5_places {o1 : Nat} {p2 : Int32} {p3 : Int32} {p4 : Int32} {M0 : mM} {out : (Int32 × mM)} (h : f_X5_places o1 p2 p3 p4 M0 = some out) : Cs (9) 43 [.ref 10, .ref o1, .int p2, .int p3, .int p4] M0 (emW eI out) := by
  generalize hk : emW eI out = R
  replace hk := hk.symm
  unfold f_X5_places at h
  obtain ⟨go1, h⟩ := o_gd h
  show Ev (9) 43 0 [some (.ref 10), some (.ref o1), some (.int p2), some (.int p3), some (.int p4), none] [] M0 R
  refine ev_go kc_43 4 (i' := 4) (L' := [some (.ref 10), some (.ref o1), some (.int p2), some (.int p3), some (.int p4), none]) (st' := [.int (p2 &&& (255 : Int32)), .ref 10]) (M' := M0) rfl ?_
  obtain ⟨M8, hM8, h⟩ := o_wr h
  refine ev_pf kc_43 rfl rfl rfl rfl (fun hc => absurd hc (by decide)) hM8 ?_
  refine ev_go kc_43 2 (i' := 7) (L' := [some (.ref 10), some (.ref o1), some (.int p2), some (.int p3), some (.int p4), none]) (st' := [.ref o1, .ref 10]) (M' := M8) rfl ?_
  obtain ⟨v9, M9, hc9, h⟩ := o_b2 h
  refine ev_cl0 (ins := .invokevirtual 22) kc_43 rfl rfl (a := 44) (as := [.ref 10, .ref o1]) (rest := []) rfl rfl (Cs.deep (c_X5_sumUp hc9) (by decide)) ?_
  refine ev_go kc_43 2 (i' := 10) (L' := [some (.ref 10), some (.ref o1), some (.int p2), some (.int p3), some (.int p4), some (.int (1 : Int32))]) (st' := []) (M' := M9) rfl ?_
  exact Ev.forget (mLe.kp (mLe.sk (mLe.sk (mLe.kp (mLe.kp (mLe.kp mLe.nl)))))) (e_X5_places_l10 go1 h hk)
/-- WakeTower$Roster.leastSet(III)I: 49, R -/
theorem kc_49 : mKc 49 = k_X5_leastSet := rfl
def f_X5_leastSet_7 (l1 : Int32) (l2 : Int32) (l3 : Int32) (l4 : Int32) (l5 : Int32) (M0 : mM) : Option (Int32 ⊕ (Int32)) :=
  bif decide ((256 : Int32) ≤ l5) then (some (.inl (-1 : Int32))) else (bif (f_X11_within l5 l1) then (b1 (f_X5_costOf l5 l2 l3 M0) (fun v4 => bif decide (¬ v4 = l4) then (some (.inr (l5 + (1 : Int32)))) else (some (.inl l5)))) else (some (.inr (l5 + (1 : Int32)))))
set_option maxRecDepth 8000 in
theorem e_X5_leastSet_7 {l1 : Int32} {l2 : Int32} {l3 : Int32} {l4 : Int32} {l5 : Int32} {M0 : mM} {R : mZ} {out : (Int32 ⊕ (Int32))}  (h : f_X5_leastSet_7 l1 l2 l3 l4 l5 M0 = some out) (hk : (∀ s' : Int32, out = .inr s' → Ev (2) 49 7 [some (.ref 10), some (.int l1), some (.int l2), some (.int l3), some (.int l4), some (.int s')] [] M0 R) ∧ (∀ e1 : Int32, out = .inl e1 → R = emR eI M0 e1)) : Ev (2) 49 7 [some (.ref 10), some (.int l1), some (.int l2), some (.int l3), some (.int l4), some (.int l5)] [] M0 R := by
  unfold f_X5_leastSet_7 at h
  rcases o_bif h with ⟨hb1, h⟩ | ⟨hb1, h⟩
  · refine ev_goT kc_49 3 (t := 25) (e := 10) (L' := [some (.ref 10), some (.int l1), some (.int l2), some (.int l3), some (.int l4), some (.int l5)]) (st' := []) rfl hb1 ?_
    refine ev_go kc_49 1 (i' := 26) (L' := [some (.ref 10), some (.int l1), some (.int l2), some (.int l3), some (.int l4), some (.int l5)]) (st' := [.int (-1 : Int32)]) (M' := M0) rfl ?_
    obtain rfl := Option.some.inj h
    rw [show _ from (hk.2 _ rfl)]
    exact ev_ret kc_49 rfl rfl rfl
  · refine ev_goF kc_49 3 (t := 25) (e := 10) (L' := [some (.ref 10), some (.int l1), some (.int l2), some (.int l3), some (.int l4), some (.int l5)]) (st' := []) rfl hb1 ?_
    refine ev_go kc_49 2 (i' := 12) (L' := [some (.ref 10), some (.int l1), some (.int l2), some (.int l3), some (.int l4), some (.int l5)]) (st' := [.int l1, .int l5]) (M' := M0) rfl ?_
    refine ev_cl0 (ins := .invokestatic 51) kc_49 rfl rfl (a := 179) (as := [.int l5, .int l1]) (rest := []) rfl rfl (Cs.deep (c_X11_within (M0 := M0)) (by decide)) ?_
    rcases o_bif h with ⟨hb3, h⟩ | ⟨hb3, h⟩
    · refine ev_goF kc_49 1 (t := 23) (e := 14) (L' := [some (.ref 10), some (.int l1), some (.int l2), some (.int l3), some (.int l4), some (.int l5)]) (st' := []) rfl (mB_e0f hb3) ?_
      refine ev_go kc_49 4 (i' := 18) (L' := [some (.ref 10), some (.int l1), some (.int l2), some (.int l3), some (.int l4), some (.int l5)]) (st' := [.int l3, .int l2, .int l5, .ref 10]) (M' := M0) rfl ?_
      obtain ⟨v4, hc4, h⟩ := o_b1 h
      refine ev_cl0 (ins := .invokevirtual 38) kc_49 rfl rfl (a := 47) (as := [.ref 10, .int l5, .int l2, .int l3]) (rest := []) rfl rfl (Cs.deep (c_X5_costOf (M0 := M0) hc4) (by decide)) ?_
      rcases o_bif h with ⟨hb5, h⟩ | ⟨hb5, h⟩
      · refine ev_goT kc_49 2 (t := 23) (e := 21) (L' := [some (.ref 10), some (.int l1), some (.int l2), some (.int l3), some (.int l4), some (.int l5)]) (st' := []) rfl hb5 ?_
        refine ev_go kc_49 2 (i' := 7) (L' := [some (.ref 10), some (.int l1), some (.int l2), some (.int l3), some (.int l4), some (.int (l5 + (1 : Int32)))]) (st' := []) (M' := M0) rfl ?_
        obtain rfl := Option.some.inj h
        exact Ev.forget (mLe.kp (mLe.kp (mLe.kp (mLe.kp (mLe.kp (mLe.kp mLe.nl)))))) (hk.1 (l5 + (1 : Int32)) rfl)
      · refine ev_goF kc_49 2 (t := 23) (e := 21) (L' := [some (.ref 10), some (.int l1), some (.int l2), some (.int l3), some (.int l4), some (.int l5)]) (st' := []) rfl hb5 ?_
        refine ev_go kc_49 1 (i' := 22) (L' := [some (.ref 10), some (.int l1), some (.int l2), some (.int l3), some (.int l4), some (.int l5)]) (st' := [.int l5]) (M' := M0) rfl ?_
        obtain rfl := Option.some.inj h
        rw [show _ from (hk.2 _ rfl)]
        exact ev_ret kc_49 rfl rfl rfl
    · refine ev_goT kc_49 1 (t := 23) (e := 14) (L' := [some (.ref 10), some (.int l1), some (.int l2), some (.int l3), some (.int l4), some (.int l5)]) (st' := []) rfl (mB_e0t hb3) ?_
      refine ev_go kc_49 2 (i' := 7) (L' := [some (.ref 10), some (.int l1), some (.int l2), some (.int l3), some (.int l4), some (.int (l5 + (1 : Int32)))]) (st' := []) (M' := M0) rfl ?_
      obtain rfl := Option.some.inj h
      exact Ev.forget (mLe.kp (mLe.kp (mLe.kp (mLe.kp (mLe.kp (mLe.kp mLe.nl)))))) (hk.1 (l5 + (1 : Int32)) rfl)
def f_X5_leastSet_l7 (l1 : Int32) (l2 : Int32) (l3 : Int32) (l4 : Int32) (l5 : Int32) (M0 : mM) : Option Int32 :=
  wh 100000 (fun s : Int32 => f_X5_leastSet_7 l1 l2 l3 l4 s M0) l5
theorem e_X5_leastSet_l7 {l1 : Int32} {l2 : Int32} {l3 : Int32} {l4 : Int32} {l5 : Int32} {M0 : mM} {R : mZ} {out : Int32}  (h : f_X5_leastSet_l7 l1 l2 l3 l4 l5 M0 = some out) (hk : R = emR eI M0 out) : Ev (2) 49 7 [some (.ref 10), some (.int l1), some (.int l2), some (.int l3), some (.int l4), some (.int l5)] [] M0 R := by
  unfold f_X5_leastSet_l7 at h
  exact wh_ev (P := fun s : Int32 => Ev (2) 49 7 [some (.ref 10), some (.int l1), some (.int l2), some (.int l3), some (.int l4), some (.int s)] [] M0 R) (Q := fun e : Int32 => R = emR eI M0 e) (fun s o hb h1 h2 => e_X5_leastSet_7  hb ⟨h1, h2⟩) 100000 _ _ h hk
def f_X5_leastSet (p1 : Int32) (p2 : Int32) (p3 : Int32) (M0 : mM) : Option Int32 :=
  b1 (f_X5_fewestOf p2 p1 M0) (fun v6 => f_X5_leastSet_l7 p1 p2 p3 v6 (0 : Int32) M0)
set_option maxRecDepth 8000 in
theorem c_X5_leastSet {p1 : Int32} {p2 : Int32} {p3 : Int32} {M0 : mM} {out : Int32} (h : f_X5_leastSet p1 p2 p3 M0 = some out) : Cs (2) 49 [.ref 10, .int p1, .int p2, .int p3] M0 (emR eI M0 out) := by
  generalize hk : emR eI M0 out = R
  replace hk := hk.symm
  unfold f_X5_leastSet at h
  show Ev (2) 49 0 [some (.ref 10), some (.int p1), some (.int p2), some (.int p3), none, none] [] M0 R
  refine ev_go kc_49 3 (i' := 3) (L' := [some (.ref 10), some (.int p1), some (.int p2), some (.int p3), none, none]) (st' := [.int p1, .int p2, .ref 10]) (M' := M0) rfl ?_
  obtain ⟨v6, hc6, h⟩ := o_b1 h
  refine ev_cl0 (ins := .invokevirtual 30) kc_49 rfl rfl (a := 46) (as := [.ref 10, .int p2, .int p1]) (rest := []) rfl rfl (Cs.deep (c_X5_fewestOf (M0 := M0) hc6) (by decide)) ?_
  refine ev_go kc_49 3 (i' := 7) (L' := [some (.ref 10), some (.int p1), some (.int p2), some (.int p3), some (.int v6), some (.int (0 : Int32))]) (st' := []) (M' := M0) rfl ?_
  exact Ev.forget (mLe.kp (mLe.kp (mLe.kp (mLe.kp (mLe.kp (mLe.kp mLe.nl)))))) (e_X5_leastSet_l7  h hk)
/-- WakeTower$Roster.setOf(III)I: 48, R -/
theorem kc_48 : mKc 48 = k_X5_setOf := rfl
def f_X5_setOf_7 (l1 : Int32) (l2 : Int32) (l3 : Int32) (l4 : Int32) (l5 : Int32) (l6 : Int32) (M0 : mM) : Option (Int32 ⊕ (Int32 × Int32 × Int32)) :=
  bif decide (l1 < l6) then (some (.inl l5)) else (bif decide (l2 ≤ l6) then (some (.inl l5)) else (b1 (f_X5_leastSet l4 (l2 - l6) l3 M0) (fun v3 => some (.inr (((M0 10 2) &&& (v3 ^^^ (-1 : Int32))), v3, (l6 + (1 : Int32)))))))
set_option maxRecDepth 8000 in
theorem e_X5_setOf_7 {l1 : Int32} {l2 : Int32} {l3 : Int32} {l4 : Int32} {l5 : Int32} {l6 : Int32} {M0 : mM} {R : mZ} {out : (Int32 ⊕ (Int32 × Int32 × Int32))}  (h : f_X5_setOf_7 l1 l2 l3 l4 l5 l6 M0 = some out) (hk : (∀ s' : Int32 × Int32 × Int32, out = .inr s' → Ev (3) 48 7 [some (.ref 10), some (.int l1), some (.int l2), some (.int l3), some (.int s'.1), some (.int s'.2.1), some (.int s'.2.2)] [] M0 R) ∧ (∀ e1 : Int32, out = .inl e1 → R = emR eI M0 e1)) : Ev (3) 48 7 [some (.ref 10), some (.int l1), some (.int l2), some (.int l3), some (.int l4), some (.int l5), some (.int l6)] [] M0 R := by
  unfold f_X5_setOf_7 at h
  rcases o_bif h with ⟨hb1, h⟩ | ⟨hb1, h⟩
  · refine ev_goT kc_48 3 (t := 30) (e := 10) (L' := [some (.ref 10), some (.int l1), some (.int l2), some (.int l3), some (.int l4), some (.int l5), some (.int l6)]) (st' := []) rfl hb1 ?_
    refine ev_go kc_48 1 (i' := 31) (L' := [some (.ref 10), some (.int l1), some (.int l2), some (.int l3), some (.int l4), some (.int l5), some (.int l6)]) (st' := [.int l5]) (M' := M0) rfl ?_
    obtain rfl := Option.some.inj h
    rw [show _ from (hk.2 _ rfl)]
    exact ev_ret kc_48 rfl rfl rfl
  · refine ev_goF kc_48 3 (t := 30) (e := 10) (L' := [some (.ref 10), some (.int l1), some (.int l2), some (.int l3), some (.int l4), some (.int l5), some (.int l6)]) (st' := []) rfl hb1 ?_
    rcases o_bif h with ⟨hb2, h⟩ | ⟨hb2, h⟩
    · refine ev_goT kc_48 3 (t := 30) (e := 13) (L' := [some (.ref 10), some (.int l1), some (.int l2), some (.int l3), some (.int l4), some (.int l5), some (.int l6)]) (st' := []) rfl hb2 ?_
      refine ev_go kc_48 1 (i' := 31) (L' := [some (.ref 10), some (.int l1), some (.int l2), some (.int l3), some (.int l4), some (.int l5), some (.int l6)]) (st' := [.int l5]) (M' := M0) rfl ?_
      obtain rfl := Option.some.inj h
      rw [show _ from (hk.2 _ rfl)]
      exact ev_ret kc_48 rfl rfl rfl
    · refine ev_goF kc_48 3 (t := 30) (e := 13) (L' := [some (.ref 10), some (.int l1), some (.int l2), some (.int l3), some (.int l4), some (.int l5), some (.int l6)]) (st' := []) rfl hb2 ?_
      refine ev_go kc_48 6 (i' := 19) (L' := [some (.ref 10), some (.int l1), some (.int l2), some (.int l3), some (.int l4), some (.int l5), some (.int l6)]) (st' := [.int l3, .int (l2 - l6), .int l4, .ref 10]) (M' := M0) rfl ?_
      obtain ⟨v3, hc3, h⟩ := o_b1 h
      refine ev_cl0 (ins := .invokevirtual 59) kc_48 rfl rfl (a := 49) (as := [.ref 10, .int l4, .int (l2 - l6), .int l3]) (rest := []) rfl rfl (Cs.deep (c_X5_leastSet (M0 := M0) hc3) (by decide)) ?_
      refine ev_go kc_48 10 (i' := 7) (L' := [some (.ref 10), some (.int l1), some (.int l2), some (.int l3), some (.int ((M0 10 2) &&& (v3 ^^^ (-1 : Int32)))), some (.int v3), some (.int (l6 + (1 : Int32)))]) (st' := []) (M' := M0) rfl ?_
      obtain rfl := Option.some.inj h
      exact Ev.forget (mLe.kp (mLe.kp (mLe.kp (mLe.kp (mLe.kp (mLe.kp (mLe.kp mLe.nl))))))) (hk.1 (((M0 10 2) &&& (v3 ^^^ (-1 : Int32))), v3, (l6 + (1 : Int32))) rfl)
def f_X5_setOf_l7 (l1 : Int32) (l2 : Int32) (l3 : Int32) (l4 : Int32) (l5 : Int32) (l6 : Int32) (M0 : mM) : Option Int32 :=
  wh 100000 (fun s : Int32 × Int32 × Int32 => f_X5_setOf_7 l1 l2 l3 s.1 s.2.1 s.2.2 M0) (l4, l5, l6)
theorem e_X5_setOf_l7 {l1 : Int32} {l2 : Int32} {l3 : Int32} {l4 : Int32} {l5 : Int32} {l6 : Int32} {M0 : mM} {R : mZ} {out : Int32}  (h : f_X5_setOf_l7 l1 l2 l3 l4 l5 l6 M0 = some out) (hk : R = emR eI M0 out) : Ev (3) 48 7 [some (.ref 10), some (.int l1), some (.int l2), some (.int l3), some (.int l4), some (.int l5), some (.int l6)] [] M0 R := by
  unfold f_X5_setOf_l7 at h
  exact wh_ev (P := fun s : Int32 × Int32 × Int32 => Ev (3) 48 7 [some (.ref 10), some (.int l1), some (.int l2), some (.int l3), some (.int s.1), some (.int s.2.1), some (.int s.2.2)] [] M0 R) (Q := fun e : Int32 => R = emR eI M0 e) (fun s o hb h1 h2 => e_X5_setOf_7  hb ⟨h1, h2⟩) 100000 _ _ h hk
def f_X5_setOf (p1 : Int32) (p2 : Int32) (p3 : Int32) (M0 : mM) : Option Int32 :=
  f_X5_setOf_l7 p1 p2 p3 (M0 10 2) (-1 : Int32) (0 : Int32) M0
set_option maxRecDepth 8000 in
theorem c_X5_setOf {p1 : Int32} {p2 : Int32} {p3 : Int32} {M0 : mM} {out : Int32} (h : f_X5_setOf p1 p2 p3 M0 = some out) : Cs (3) 48 [.ref 10, .int p1, .int p2, .int p3] M0 (emR eI M0 out) := by
  generalize hk : emR eI M0 out = R
  replace hk := hk.symm
  unfold f_X5_setOf at h
  show Ev (3) 48 0 [some (.ref 10), some (.int p1), some (.int p2), some (.int p3), none, none, none] [] M0 R
  refine ev_go kc_48 7 (i' := 7) (L' := [some (.ref 10), some (.int p1), some (.int p2), some (.int p3), some (.int (M0 10 2)), some (.int (-1 : Int32)), some (.int (0 : Int32))]) (st' := []) (M' := M0) rfl ?_
  exact Ev.forget (mLe.kp (mLe.kp (mLe.kp (mLe.kp (mLe.kp (mLe.kp (mLe.kp mLe.nl))))))) (e_X5_setOf_l7  h hk)
/-- WakeTower$Senses.keep(I)V: 51, W -/
theorem kc_51 : mKc 51 = k_X6_keep := rfl
def f_X6_keep (p1 : Int32) (M0 : mM) : Option (Unit × mM) :=
  bif decide ((M0 5 4) < 0) then (some ((), M0)) else (bif decide ((256 : Int32) ≤ (M0 5 4)) then (some ((), M0)) else (gd (mIn (M0 5 4) 256) (wr (mst M0 6 (ix (M0 5 4)) p1) (fun M3 => gd (mAcB 8 7 (0 : Int32) ((M3 5 4) * (8 : Int32)) (8 : Int32)) (wr (mAc 8 7 (0 : Int32) ((M3 5 4) * (8 : Int32)) (8 : Int32) M3) (fun M5 => wr (mst M5 5 4 ((M5 5 4) + (1 : Int32))) (fun M7 => some ((), M7))))))))
set_option maxRecDepth 8000 in
theorem c_X6_keep {p1 : Int32} {M0 : mM} {out : (Unit × mM)} (h : f_X6_keep p1 M0 = some out) : Cs (8) 51 [.ref 5, .int p1] M0 (emW eU out) := by
  generalize hk : emW eU out = R
  replace hk := hk.symm
  unfold f_X6_keep at h
  show Ev (8) 51 0 [some (.ref 5), some (.int p1)] [] M0 R
  rcases o_bif h with ⟨hb1, h⟩ | ⟨hb1, h⟩
  · refine ev_goT kc_51 3 (t := 30) (e := 3) (L' := [some (.ref 5), some (.int p1)]) (st' := []) rfl hb1 ?_
    obtain rfl := Option.some.inj h
    rw [hk]
    exact ev_vret kc_51 rfl rfl rfl
  · refine ev_goF kc_51 3 (t := 30) (e := 3) (L' := [some (.ref 5), some (.int p1)]) (st' := []) rfl hb1 ?_
    rcases o_bif h with ⟨hb2, h⟩ | ⟨hb2, h⟩
    · refine ev_goT kc_51 4 (t := 30) (e := 7) (L' := [some (.ref 5), some (.int p1)]) (st' := []) rfl hb2 ?_
      obtain rfl := Option.some.inj h
      rw [hk]
      exact ev_vret kc_51 rfl rfl rfl
    · refine ev_goF kc_51 4 (t := 30) (e := 7) (L' := [some (.ref 5), some (.int p1)]) (st' := []) rfl hb2 ?_
      refine ev_go kc_51 5 (i' := 12) (L' := [some (.ref 5), some (.int p1)]) (st' := [.int p1, .int (M0 5 4), .ref 6]) (M' := M0) rfl ?_
      obtain ⟨hg4, h⟩ := o_gd h
      obtain ⟨M3, hM3, h⟩ := o_wr h
      refine ev_is kc_51 rfl rfl hg4 hM3 ?_
      refine ev_go kc_51 10 (i' := 23) (L' := [some (.ref 5), some (.int p1)]) (st' := [.int (8 : Int32), .int ((M3 5 4) * (8 : Int32)), .ref 7, .int (0 : Int32), .ref 8]) (M' := M3) rfl ?_
      obtain ⟨hg6, h⟩ := o_gd h
      obtain ⟨M5, hM5, h⟩ := o_wr h
      refine ev_ac kc_51 rfl rfl rfl rfl hg6 hM5 ?_
      refine ev_go kc_51 5 (i' := 29) (L' := [some (.ref 5), some (.int p1)]) (st' := [.int ((M5 5 4) + (1 : Int32)), .ref 5]) (M' := M5) rfl ?_
      obtain ⟨M7, hM7, h⟩ := o_wr h
      refine ev_pf kc_51 rfl rfl rfl rfl (fun hc => absurd hc (by decide)) hM7 ?_
      obtain rfl := Option.some.inj h
      rw [hk]
      exact ev_vret kc_51 rfl rfl rfl
/-- WakeTower$Senses.gather(LWakeTower$Tower;II)V: 50, W -/
theorem kc_50 : mKc 50 = k_X6_gather := rfl
def f_X6_gather_18 (o1 : Nat) (l2 : Int32) (l3 : Int32) (l4 : Int32) (l5 : Int32) (M0 : mM) : Option ((Unit × mM) ⊕ (Int32 × mM)) :=
  bif decide ((256 : Int32) ≤ l5) then (some (.inl ((), M0))) else (bif (f_X11_within l5 l4) then (b1 (f_X9_hanging o1 (M0 o1 1) l5 M0) (fun v4 => bif decide (¬ v4 = 0) then (some (.inr ((l5 + (1 : Int32)), M0))) else (b2 (f_X9_carry o1 (M0 o1 1) l5 8 M0) (fun v6 M6 => gd (mIn l2 8) (gd (mIn l2 8) (bif decide (¬ (M6 8 (ix l2)) = (M6 (o1 + 7) (ix l2))) then (some (.inr ((l5 + (1 : Int32)), M6))) else (gd (mIn l3 8) (gd (mIn l3 8) (bif decide (¬ (M6 8 (ix l3)) = (M6 (o1 + 7) (ix l3))) then (some (.inr ((l5 + (1 : Int32)), M6))) else (b2 (f_X6_keep l5 M6) (fun v13 M13 => some (.inr ((l5 + (1 : Int32)), M13))))))))))))) else (some (.inr ((l5 + (1 : Int32)), M0))))
set_option maxRecDepth 8000 in
theorem e_X6_gather_18 {o1 : Nat} {l2 : Int32} {l3 : Int32} {l4 : Int32} {l5 : Int32} {M0 : mM} {R : mZ} {out : ((Unit × mM) ⊕ (Int32 × mM))} (go1 : mTwB o1 = true) (h : f_X6_gather_18 o1 l2 l3 l4 l5 M0 = some out) (hk : (∀ s' : Int32 × mM, out = .inr s' → Ev (9) 50 18 [some (.ref 5), some (.ref o1), some (.int l2), some (.int l3), some (.int l4), some (.int s'.1)] [] (s'.2) R) ∧ (∀ e1 : (Unit × mM), out = .inl e1 → R = emW eU e1)) : Ev (9) 50 18 [some (.ref 5), some (.ref o1), some (.int l2), some (.int l3), some (.int l4), some (.int l5)] [] M0 R := by
  unfold f_X6_gather_18 at h
  rcases o_bif h with ⟨hb1, h⟩ | ⟨hb1, h⟩
  · refine ev_goT kc_50 3 (t := 61) (e := 21) (L' := [some (.ref 5), some (.ref o1), some (.int l2), some (.int l3), some (.int l4), some (.int l5)]) (st' := []) rfl hb1 ?_
    obtain rfl := Option.some.inj h
    rw [show _ from (hk.2 _ rfl)]
    exact ev_vret kc_50 rfl rfl rfl
  · refine ev_goF kc_50 3 (t := 61) (e := 21) (L' := [some (.ref 5), some (.ref o1), some (.int l2), some (.int l3), some (.int l4), some (.int l5)]) (st' := []) rfl hb1 ?_
    refine ev_go kc_50 2 (i' := 23) (L' := [some (.ref 5), some (.ref o1), some (.int l2), some (.int l3), some (.int l4), some (.int l5)]) (st' := [.int l4, .int l5]) (M' := M0) rfl ?_
    refine ev_cl0 (ins := .invokestatic 37) kc_50 rfl rfl (a := 179) (as := [.int l5, .int l4]) (rest := []) rfl rfl (Cs.deep (c_X11_within (M0 := M0)) (by decide)) ?_
    rcases o_bif h with ⟨hb3, h⟩ | ⟨hb3, h⟩
    · refine ev_goF kc_50 1 (t := 59) (e := 25) (L' := [some (.ref 5), some (.ref o1), some (.int l2), some (.int l3), some (.int l4), some (.int l5)]) (st' := []) rfl (mB_e0f hb3) ?_
      refine ev_go kc_50 2 (i' := 27) (L' := [some (.ref 5), some (.ref o1), some (.int l2), some (.int l3), some (.int l4), some (.int l5)]) (st' := [.ref o1, .ref o1]) (M' := M0) rfl ?_
      refine ev_gf kc_50 rfl (mTw0 go1) rfl ?_
      refine ev_go kc_50 1 (i' := 29) (L' := [some (.ref 5), some (.ref o1), some (.int l2), some (.int l3), some (.int l4), some (.int l5)]) (st' := [.int l5, .int (M0 o1 1), .ref o1]) (M' := M0) rfl ?_
      obtain ⟨v4, hc4, h⟩ := o_b1 h
      refine ev_cl0 (ins := .invokevirtual 41) kc_50 rfl rfl (a := 91) (as := [.ref o1, .int (M0 o1 1), .int l5]) (rest := []) rfl (m_rec (mTw0 go1)) (Cs.deep (c_X9_hanging (M0 := M0) hc4) (by decide)) ?_
      rcases o_bif h with ⟨hb5, h⟩ | ⟨hb5, h⟩
      · refine ev_goT kc_50 1 (t := 59) (e := 31) (L' := [some (.ref 5), some (.ref o1), some (.int l2), some (.int l3), some (.int l4), some (.int l5)]) (st' := []) rfl hb5 ?_
        refine ev_go kc_50 2 (i' := 18) (L' := [some (.ref 5), some (.ref o1), some (.int l2), some (.int l3), some (.int l4), some (.int (l5 + (1 : Int32)))]) (st' := []) (M' := M0) rfl ?_
        obtain rfl := Option.some.inj h
        exact Ev.forget (mLe.kp (mLe.kp (mLe.kp (mLe.kp (mLe.kp (mLe.kp mLe.nl)))))) (hk.1 ((l5 + (1 : Int32)), M0) rfl)
      · refine ev_goF kc_50 1 (t := 59) (e := 31) (L' := [some (.ref 5), some (.ref o1), some (.int l2), some (.int l3), some (.int l4), some (.int l5)]) (st' := []) rfl hb5 ?_
        refine ev_go kc_50 2 (i' := 33) (L' := [some (.ref 5), some (.ref o1), some (.int l2), some (.int l3), some (.int l4), some (.int l5)]) (st' := [.ref o1, .ref o1]) (M' := M0) rfl ?_
        refine ev_gf kc_50 rfl (mTw0 go1) rfl ?_
        refine ev_go kc_50 3 (i' := 37) (L' := [some (.ref 5), some (.ref o1), some (.int l2), some (.int l3), some (.int l4), some (.int l5)]) (st' := [.ref 8, .int l5, .int (M0 o1 1), .ref o1]) (M' := M0) rfl ?_
        obtain ⟨v6, M6, hc6, h⟩ := o_b2 h
        refine ev_cl0 (ins := .invokevirtual 45) kc_50 rfl rfl (a := 89) (as := [.ref o1, .int (M0 o1 1), .int l5, .ref 8]) (rest := []) rfl (m_rec (mTw0 go1)) (Cs.deep (c_X9_carry hc6) (by decide)) ?_
        refine ev_go kc_50 3 (i' := 41) (L' := [some (.ref 5), some (.ref o1), some (.int l2), some (.int l3), some (.int l4), some (.int l5)]) (st' := [.int l2, .ref 8]) (M' := M6) rfl ?_
        obtain ⟨hg7, h⟩ := o_gd h
        refine ev_ia kc_50 rfl rfl hg7 ?_
        refine ev_go kc_50 1 (i' := 43) (L' := [some (.ref 5), some (.ref o1), some (.int l2), some (.int l3), some (.int l4), some (.int l5)]) (st' := [.ref o1, .int (M6 8 (ix l2))]) (M' := M6) rfl ?_
        refine ev_gr kc_50 rfl (mTw0 go1) (j := 6) rfl ?_
        refine ev_go kc_50 1 (i' := 45) (L' := [some (.ref 5), some (.ref o1), some (.int l2), some (.int l3), some (.int l4), some (.int l5)]) (st' := [.int l2, .ref (o1 + 7), .int (M6 8 (ix l2))]) (M' := M6) rfl ?_
        obtain ⟨hg8, h⟩ := o_gd h
        refine ev_ia kc_50 rfl (mTw7 go1) hg8 ?_
        rcases o_bif h with ⟨hb9, h⟩ | ⟨hb9, h⟩
        · refine ev_goT kc_50 1 (t := 59) (e := 47) (L' := [some (.ref 5), some (.ref o1), some (.int l2), some (.int l3), some (.int l4), some (.int l5)]) (st' := []) rfl hb9 ?_
          refine ev_go kc_50 2 (i' := 18) (L' := [some (.ref 5), some (.ref o1), some (.int l2), some (.int l3), some (.int l4), some (.int (l5 + (1 : Int32)))]) (st' := []) (M' := M6) rfl ?_
          obtain rfl := Option.some.inj h
          exact Ev.forget (mLe.kp (mLe.kp (mLe.kp (mLe.kp (mLe.kp (mLe.kp mLe.nl)))))) (hk.1 ((l5 + (1 : Int32)), M6) rfl)
        · refine ev_goF kc_50 1 (t := 59) (e := 47) (L' := [some (.ref 5), some (.ref o1), some (.int l2), some (.int l3), some (.int l4), some (.int l5)]) (st' := []) rfl hb9 ?_
          refine ev_go kc_50 3 (i' := 50) (L' := [some (.ref 5), some (.ref o1), some (.int l2), some (.int l3), some (.int l4), some (.int l5)]) (st' := [.int l3, .ref 8]) (M' := M6) rfl ?_
          obtain ⟨hg10, h⟩ := o_gd h
          refine ev_ia kc_50 rfl rfl hg10 ?_
          refine ev_go kc_50 1 (i' := 52) (L' := [some (.ref 5), some (.ref o1), some (.int l2), some (.int l3), some (.int l4), some (.int l5)]) (st' := [.ref o1, .int (M6 8 (ix l3))]) (M' := M6) rfl ?_
          refine ev_gr kc_50 rfl (mTw0 go1) (j := 6) rfl ?_
          refine ev_go kc_50 1 (i' := 54) (L' := [some (.ref 5), some (.ref o1), some (.int l2), some (.int l3), some (.int l4), some (.int l5)]) (st' := [.int l3, .ref (o1 + 7), .int (M6 8 (ix l3))]) (M' := M6) rfl ?_
          obtain ⟨hg11, h⟩ := o_gd h
          refine ev_ia kc_50 rfl (mTw7 go1) hg11 ?_
          rcases o_bif h with ⟨hb12, h⟩ | ⟨hb12, h⟩
          · refine ev_goT kc_50 1 (t := 59) (e := 56) (L' := [some (.ref 5), some (.ref o1), some (.int l2), some (.int l3), some (.int l4), some (.int l5)]) (st' := []) rfl hb12 ?_
            refine ev_go kc_50 2 (i' := 18) (L' := [some (.ref 5), some (.ref o1), some (.int l2), some (.int l3), some (.int l4), some (.int (l5 + (1 : Int32)))]) (st' := []) (M' := M6) rfl ?_
            obtain rfl := Option.some.inj h
            exact Ev.forget (mLe.kp (mLe.kp (mLe.kp (mLe.kp (mLe.kp (mLe.kp mLe.nl)))))) (hk.1 ((l5 + (1 : Int32)), M6) rfl)
          · refine ev_goF kc_50 1 (t := 59) (e := 56) (L' := [some (.ref 5), some (.ref o1), some (.int l2), some (.int l3), some (.int l4), some (.int l5)]) (st' := []) rfl hb12 ?_
            refine ev_go kc_50 2 (i' := 58) (L' := [some (.ref 5), some (.ref o1), some (.int l2), some (.int l3), some (.int l4), some (.int l5)]) (st' := [.int l5, .ref 5]) (M' := M6) rfl ?_
            obtain ⟨v13, M13, hc13, h⟩ := o_b2 h
            refine ev_cl0 (ins := .invokevirtual 52) kc_50 rfl rfl (a := 51) (as := [.ref 5, .int l5]) (rest := []) rfl rfl (Cs.deep (c_X6_keep hc13) (by decide)) ?_
            refine ev_go kc_50 2 (i' := 18) (L' := [some (.ref 5), some (.ref o1), some (.int l2), some (.int l3), some (.int l4), some (.int (l5 + (1 : Int32)))]) (st' := []) (M' := M13) rfl ?_
            obtain rfl := Option.some.inj h
            exact Ev.forget (mLe.kp (mLe.kp (mLe.kp (mLe.kp (mLe.kp (mLe.kp mLe.nl)))))) (hk.1 ((l5 + (1 : Int32)), M13) rfl)
    · refine ev_goT kc_50 1 (t := 59) (e := 25) (L' := [some (.ref 5), some (.ref o1), some (.int l2), some (.int l3), some (.int l4), some (.int l5)]) (st' := []) rfl (mB_e0t hb3) ?_
      refine ev_go kc_50 2 (i' := 18) (L' := [some (.ref 5), some (.ref o1), some (.int l2), some (.int l3), some (.int l4), some (.int (l5 + (1 : Int32)))]) (st' := []) (M' := M0) rfl ?_
      obtain rfl := Option.some.inj h
      exact Ev.forget (mLe.kp (mLe.kp (mLe.kp (mLe.kp (mLe.kp (mLe.kp mLe.nl)))))) (hk.1 ((l5 + (1 : Int32)), M0) rfl)
def f_X6_gather_l18 (o1 : Nat) (l2 : Int32) (l3 : Int32) (l4 : Int32) (l5 : Int32) (M0 : mM) : Option (Unit × mM) :=
  wh 100000 (fun s : Int32 × mM => f_X6_gather_18 o1 l2 l3 l4 s.1 s.2) (l5, M0)
theorem e_X6_gather_l18 {o1 : Nat} {l2 : Int32} {l3 : Int32} {l4 : Int32} {l5 : Int32} {M0 : mM} {R : mZ} {out : (Unit × mM)} (go1 : mTwB o1 = true) (h : f_X6_gather_l18 o1 l2 l3 l4 l5 M0 = some out) (hk : R = emW eU out) : Ev (9) 50 18 [some (.ref 5), some (.ref o1), some (.int l2), some (.int l3), some (.int l4), some (.int l5)] [] M0 R := by
  unfold f_X6_gather_l18 at h
  exact wh_ev (P := fun s : Int32 × mM => Ev (9) 50 18 [some (.ref 5), some (.ref o1), some (.int l2), some (.int l3), some (.int l4), some (.int s.1)] [] s.2 R) (Q := fun e : (Unit × mM) => R = emW eU e) (fun s o hb h1 h2 => e_X6_gather_18 go1 hb ⟨h1, h2⟩) 100000 _ _ h hk
def f_X6_gather (o1 : Nat) (p2 : Int32) (p3 : Int32) (M0 : mM) : Option (Unit × mM) :=
  gd (mTwB o1) (wr (mst M0 5 4 (0 : Int32)) (fun M14 => f_X6_gather_l18 o1 p2 p3 (((M14 o1 1) &&& ((f_X11_bit p2) ^^^ (-1 : Int32))) &&& ((f_X11_bit p3) ^^^ (-1 : Int32))) (0 : Int32) M14))
set_option maxRecDepth 8000 in
theorem c_X6_gather {o1 : Nat} {p2 : Int32} {p3 : Int32} {M0 : mM} {out : (Unit × mM)} (h : f_X6_gather o1 p2 p3 M0 = some out) : Cs (9) 50 [.ref 5, .ref o1, .int p2, .int p3] M0 (emW eU out) := by
  generalize hk : emW eU out = R
  replace hk := hk.symm
  unfold f_X6_gather at h
  obtain ⟨go1, h⟩ := o_gd h
  show Ev (9) 50 0 [some (.ref 5), some (.ref o1), some (.int p2), some (.int p3), none, none] [] M0 R
  refine ev_go kc_50 2 (i' := 2) (L' := [some (.ref 5), some (.ref o1), some (.int p2), some (.int p3), none, none]) (st' := [.int (0 : Int32), .ref 5]) (M' := M0) rfl ?_
  obtain ⟨M14, hM14, h⟩ := o_wr h
  refine ev_pf kc_50 rfl rfl rfl rfl (fun hc => absurd hc (by decide)) hM14 ?_
  refine ev_go kc_50 1 (i' := 4) (L' := [some (.ref 5), some (.ref o1), some (.int p2), some (.int p3), none, none]) (st' := [.ref o1]) (M' := M14) rfl ?_
  refine ev_gf kc_50 rfl (mTw0 go1) rfl ?_
  refine ev_go kc_50 1 (i' := 6) (L' := [some (.ref 5), some (.ref o1), some (.int p2), some (.int p3), none, none]) (st' := [.int p2, .int (M14 o1 1)]) (M' := M14) rfl ?_
  refine ev_cl0 (ins := .invokestatic 33) kc_50 rfl rfl (a := 177) (as := [.int p2]) (rest := [.int (M14 o1 1)]) rfl rfl (Cs.deep (c_X11_bit (M0 := M14)) (by decide)) ?_
  refine ev_go kc_50 4 (i' := 11) (L' := [some (.ref 5), some (.ref o1), some (.int p2), some (.int p3), none, none]) (st' := [.int p3, .int ((M14 o1 1) &&& ((f_X11_bit p2) ^^^ (-1 : Int32)))]) (M' := M14) rfl ?_
  refine ev_cl0 (ins := .invokestatic 33) kc_50 rfl rfl (a := 177) (as := [.int p3]) (rest := [.int ((M14 o1 1) &&& ((f_X11_bit p2) ^^^ (-1 : Int32)))]) rfl rfl (Cs.deep (c_X11_bit (M0 := M14)) (by decide)) ?_
  refine ev_go kc_50 6 (i' := 18) (L' := [some (.ref 5), some (.ref o1), some (.int p2), some (.int p3), some (.int (((M14 o1 1) &&& ((f_X11_bit p2) ^^^ (-1 : Int32))) &&& ((f_X11_bit p3) ^^^ (-1 : Int32)))), some (.int (0 : Int32))]) (st' := []) (M' := M14) rfl ?_
  exact Ev.forget (mLe.kp (mLe.kp (mLe.kp (mLe.kp (mLe.kp (mLe.kp mLe.nl)))))) (e_X6_gather_l18 go1 h hk)
/-- WakeTower$Senses.asleepInAll()I: 52, R -/
theorem kc_52 : mKc 52 = k_X6_asleepInAll := rfl
def f_X6_asleepInAll_4 (l1 : Int32) (l2 : Int32) (M0 : mM) : Option (Int32 ⊕ (Int32 × Int32)) :=
  bif decide ((256 : Int32) ≤ l2) then (some (.inl l1)) else (bif decide ((M0 5 4) ≤ l2) then (some (.inr ((l1 &&& (255 : Int32)), (l2 + (1 : Int32))))) else (gd (mIn l2 256) (some (.inr ((l1 &&& (M0 6 (ix l2))), (l2 + (1 : Int32)))))))
set_option maxRecDepth 8000 in
theorem e_X6_asleepInAll_4 {l1 : Int32} {l2 : Int32} {M0 : mM} {R : mZ} {out : (Int32 ⊕ (Int32 × Int32))}  (h : f_X6_asleepInAll_4 l1 l2 M0 = some out) (hk : (∀ s' : Int32 × Int32, out = .inr s' → Ev (0) 52 4 [some (.ref 5), some (.int s'.1), some (.int s'.2)] [] M0 R) ∧ (∀ e1 : Int32, out = .inl e1 → R = emR eI M0 e1)) : Ev (0) 52 4 [some (.ref 5), some (.int l1), some (.int l2)] [] M0 R := by
  unfold f_X6_asleepInAll_4 at h
  rcases o_bif h with ⟨hb1, h⟩ | ⟨hb1, h⟩
  · refine ev_goT kc_52 3 (t := 22) (e := 7) (L' := [some (.ref 5), some (.int l1), some (.int l2)]) (st' := []) rfl hb1 ?_
    refine ev_go kc_52 1 (i' := 23) (L' := [some (.ref 5), some (.int l1), some (.int l2)]) (st' := [.int l1]) (M' := M0) rfl ?_
    obtain rfl := Option.some.inj h
    rw [show _ from (hk.2 _ rfl)]
    exact ev_ret kc_52 rfl rfl rfl
  · refine ev_goF kc_52 3 (t := 22) (e := 7) (L' := [some (.ref 5), some (.int l1), some (.int l2)]) (st' := []) rfl hb1 ?_
    rcases o_bif h with ⟨hb2, h⟩ | ⟨hb2, h⟩
    · refine ev_goT kc_52 5 (t := 17) (e := 12) (L' := [some (.ref 5), some (.int l1), some (.int l2)]) (st' := [.int l1]) rfl hb2 ?_
      refine ev_go kc_52 5 (i' := 4) (L' := [some (.ref 5), some (.int (l1 &&& (255 : Int32))), some (.int (l2 + (1 : Int32)))]) (st' := []) (M' := M0) rfl ?_
      obtain rfl := Option.some.inj h
      exact Ev.forget (mLe.kp (mLe.kp (mLe.kp mLe.nl))) (hk.1 ((l1 &&& (255 : Int32)), (l2 + (1 : Int32))) rfl)
    · refine ev_goF kc_52 5 (t := 17) (e := 12) (L' := [some (.ref 5), some (.int l1), some (.int l2)]) (st' := [.int l1]) rfl hb2 ?_
      refine ev_go kc_52 3 (i' := 15) (L' := [some (.ref 5), some (.int l1), some (.int l2)]) (st' := [.int l2, .ref 6, .int l1]) (M' := M0) rfl ?_
      obtain ⟨hg3, h⟩ := o_gd h
      refine ev_ia kc_52 rfl rfl hg3 ?_
      refine ev_go kc_52 5 (i' := 4) (L' := [some (.ref 5), some (.int (l1 &&& (M0 6 (ix l2)))), some (.int (l2 + (1 : Int32)))]) (st' := []) (M' := M0) rfl ?_
      obtain rfl := Option.some.inj h
      exact Ev.forget (mLe.kp (mLe.kp (mLe.kp mLe.nl))) (hk.1 ((l1 &&& (M0 6 (ix l2))), (l2 + (1 : Int32))) rfl)
def f_X6_asleepInAll_l4 (l1 : Int32) (l2 : Int32) (M0 : mM) : Option Int32 :=
  wh 100000 (fun s : Int32 × Int32 => f_X6_asleepInAll_4 s.1 s.2 M0) (l1, l2)
theorem e_X6_asleepInAll_l4 {l1 : Int32} {l2 : Int32} {M0 : mM} {R : mZ} {out : Int32}  (h : f_X6_asleepInAll_l4 l1 l2 M0 = some out) (hk : R = emR eI M0 out) : Ev (0) 52 4 [some (.ref 5), some (.int l1), some (.int l2)] [] M0 R := by
  unfold f_X6_asleepInAll_l4 at h
  exact wh_ev (P := fun s : Int32 × Int32 => Ev (0) 52 4 [some (.ref 5), some (.int s.1), some (.int s.2)] [] M0 R) (Q := fun e : Int32 => R = emR eI M0 e) (fun s o hb h1 h2 => e_X6_asleepInAll_4  hb ⟨h1, h2⟩) 100000 _ _ h hk
def f_X6_asleepInAll  (M0 : mM) : Option Int32 :=
  f_X6_asleepInAll_l4 (255 : Int32) (0 : Int32) M0
set_option maxRecDepth 8000 in
theorem c_X6_asleepInAll  {M0 : mM} {out : Int32} (h : f_X6_asleepInAll M0 = some out) : Cs (0) 52 [.ref 5] M0 (emR eI M0 out) := by
  generalize hk : emR eI M0 out = R
  replace hk := hk.symm
  unfold f_X6_asleepInAll at h
  show Ev (0) 52 0 [some (.ref 5), none, none] [] M0 R
  refine ev_go kc_52 4 (i' := 4) (L' := [some (.ref 5), some (.int (255 : Int32)), some (.int (0 : Int32))]) (st' := []) (M' := M0) rfl ?_
  exact Ev.forget (mLe.kp (mLe.kp (mLe.kp mLe.nl))) (e_X6_asleepInAll_l4  h hk)
/-- WakeTower$Senses.asleepInSome()I: 53, R -/
theorem kc_53 : mKc 53 = k_X6_asleepInSome := rfl
def f_X6_asleepInSome_4 (l1 : Int32) (l2 : Int32) (M0 : mM) : Option (Int32 ⊕ (Int32 × Int32)) :=
  bif decide ((256 : Int32) ≤ l2) then (some (.inl l1)) else (bif decide ((M0 5 4) ≤ l2) then (some (.inr ((l1 ||| (0 : Int32)), (l2 + (1 : Int32))))) else (gd (mIn l2 256) (some (.inr ((l1 ||| (M0 6 (ix l2))), (l2 + (1 : Int32)))))))
set_option maxRecDepth 8000 in
theorem e_X6_asleepInSome_4 {l1 : Int32} {l2 : Int32} {M0 : mM} {R : mZ} {out : (Int32 ⊕ (Int32 × Int32))}  (h : f_X6_asleepInSome_4 l1 l2 M0 = some out) (hk : (∀ s' : Int32 × Int32, out = .inr s' → Ev (0) 53 4 [some (.ref 5), some (.int s'.1), some (.int s'.2)] [] M0 R) ∧ (∀ e1 : Int32, out = .inl e1 → R = emR eI M0 e1)) : Ev (0) 53 4 [some (.ref 5), some (.int l1), some (.int l2)] [] M0 R := by
  unfold f_X6_asleepInSome_4 at h
  rcases o_bif h with ⟨hb1, h⟩ | ⟨hb1, h⟩
  · refine ev_goT kc_53 3 (t := 22) (e := 7) (L' := [some (.ref 5), some (.int l1), some (.int l2)]) (st' := []) rfl hb1 ?_
    refine ev_go kc_53 1 (i' := 23) (L' := [some (.ref 5), some (.int l1), some (.int l2)]) (st' := [.int l1]) (M' := M0) rfl ?_
    obtain rfl := Option.some.inj h
    rw [show _ from (hk.2 _ rfl)]
    exact ev_ret kc_53 rfl rfl rfl
  · refine ev_goF kc_53 3 (t := 22) (e := 7) (L' := [some (.ref 5), some (.int l1), some (.int l2)]) (st' := []) rfl hb1 ?_
    rcases o_bif h with ⟨hb2, h⟩ | ⟨hb2, h⟩
    · refine ev_goT kc_53 5 (t := 17) (e := 12) (L' := [some (.ref 5), some (.int l1), some (.int l2)]) (st' := [.int l1]) rfl hb2 ?_
      refine ev_go kc_53 5 (i' := 4) (L' := [some (.ref 5), some (.int (l1 ||| (0 : Int32))), some (.int (l2 + (1 : Int32)))]) (st' := []) (M' := M0) rfl ?_
      obtain rfl := Option.some.inj h
      exact Ev.forget (mLe.kp (mLe.kp (mLe.kp mLe.nl))) (hk.1 ((l1 ||| (0 : Int32)), (l2 + (1 : Int32))) rfl)
    · refine ev_goF kc_53 5 (t := 17) (e := 12) (L' := [some (.ref 5), some (.int l1), some (.int l2)]) (st' := [.int l1]) rfl hb2 ?_
      refine ev_go kc_53 3 (i' := 15) (L' := [some (.ref 5), some (.int l1), some (.int l2)]) (st' := [.int l2, .ref 6, .int l1]) (M' := M0) rfl ?_
      obtain ⟨hg3, h⟩ := o_gd h
      refine ev_ia kc_53 rfl rfl hg3 ?_
      refine ev_go kc_53 5 (i' := 4) (L' := [some (.ref 5), some (.int (l1 ||| (M0 6 (ix l2)))), some (.int (l2 + (1 : Int32)))]) (st' := []) (M' := M0) rfl ?_
      obtain rfl := Option.some.inj h
      exact Ev.forget (mLe.kp (mLe.kp (mLe.kp mLe.nl))) (hk.1 ((l1 ||| (M0 6 (ix l2))), (l2 + (1 : Int32))) rfl)
def f_X6_asleepInSome_l4 (l1 : Int32) (l2 : Int32) (M0 : mM) : Option Int32 :=
  wh 100000 (fun s : Int32 × Int32 => f_X6_asleepInSome_4 s.1 s.2 M0) (l1, l2)
theorem e_X6_asleepInSome_l4 {l1 : Int32} {l2 : Int32} {M0 : mM} {R : mZ} {out : Int32}  (h : f_X6_asleepInSome_l4 l1 l2 M0 = some out) (hk : R = emR eI M0 out) : Ev (0) 53 4 [some (.ref 5), some (.int l1), some (.int l2)] [] M0 R := by
  unfold f_X6_asleepInSome_l4 at h
  exact wh_ev (P := fun s : Int32 × Int32 => Ev (0) 53 4 [some (.ref 5), some (.int s.1), some (.int s.2)] [] M0 R) (Q := fun e : Int32 => R = emR eI M0 e) (fun s o hb h1 h2 => e_X6_asleepInSome_4  hb ⟨h1, h2⟩) 100000 _ _ h hk
def f_X6_asleepInSome  (M0 : mM) : Option Int32 :=
  f_X6_asleepInSome_l4 (0 : Int32) (0 : Int32) M0
set_option maxRecDepth 8000 in
theorem c_X6_asleepInSome  {M0 : mM} {out : Int32} (h : f_X6_asleepInSome M0 = some out) : Cs (0) 53 [.ref 5] M0 (emR eI M0 out) := by
  generalize hk : emR eI M0 out = R
  replace hk := hk.symm
  unfold f_X6_asleepInSome at h
  show Ev (0) 53 0 [some (.ref 5), none, none] [] M0 R
  refine ev_go kc_53 4 (i' := 4) (L' := [some (.ref 5), some (.int (0 : Int32)), some (.int (0 : Int32))]) (st' := []) (M' := M0) rfl ?_
  exact Ev.forget (mLe.kp (mLe.kp (mLe.kp mLe.nl))) (e_X6_asleepInSome_l4  h hk)
/-- WakeTower$Senses.greatestPart(I)I: 55, W -/
theorem kc_55 : mKc 55 = k_X6_greatestPart := rfl
def f_X6_greatestPart_33 (l1 : Int32) (l2 : Int32) (l3 : Int32) (s0 : Int32) (M0 : mM) : Option ((Int32 × mM) ⊕ (Int32 × Int32 × mM)) :=
  bif decide (s0 < 0) then (some (.inr (l2, (l3 + (1 : Int32)), M0))) else (bif decide ((792 : Int32) < s0) then (some (.inr (l2, (l3 + (1 : Int32)), M0))) else (gd (mIn s0 793) (gd (mIn s0 793) (wr (mst M0 9 (ix s0) ((M0 9 (ix s0)) + (1 : Int32))) (fun M4 => gd (mIn s0 793) (some (.inr ((mMax l2 (M4 9 (ix s0))), (l3 + (1 : Int32)), M4))))))))
set_option maxRecDepth 8000 in
theorem e_X6_greatestPart_33 {l1 : Int32} {l2 : Int32} {l3 : Int32} {s0 : Int32} {M0 : mM} {R : mZ} {out : ((Int32 × mM) ⊕ (Int32 × Int32 × mM))}  (h : f_X6_greatestPart_33 l1 l2 l3 s0 M0 = some out) (hk : (∀ s' : Int32 × Int32 × mM, out = .inr s' → Ev (8) 55 16 [some (.ref 5), some (.int l1), some (.int s'.1), some (.int s'.2.1), none] [] (s'.2.2) R) ∧ (∀ e1 : (Int32 × mM), out = .inl e1 → R = emW eI e1)) : Ev (8) 55 33 [some (.ref 5), some (.int l1), some (.int l2), some (.int l3), none] [.int s0] M0 R := by
  unfold f_X6_greatestPart_33 at h
  rcases o_bif h with ⟨hb1, h⟩ | ⟨hb1, h⟩
  · refine ev_goT kc_55 3 (t := 54) (e := 36) (L' := [some (.ref 5), some (.int l1), some (.int l2), some (.int l3), some (.int s0)]) (st' := []) rfl hb1 ?_
    refine ev_go kc_55 2 (i' := 16) (L' := [some (.ref 5), some (.int l1), some (.int l2), some (.int (l3 + (1 : Int32))), some (.int s0)]) (st' := []) (M' := M0) rfl ?_
    obtain rfl := Option.some.inj h
    exact Ev.forget (mLe.kp (mLe.kp (mLe.kp (mLe.kp (mLe.sk mLe.nl))))) (hk.1 (l2, (l3 + (1 : Int32)), M0) rfl)
  · refine ev_goF kc_55 3 (t := 54) (e := 36) (L' := [some (.ref 5), some (.int l1), some (.int l2), some (.int l3), some (.int s0)]) (st' := []) rfl hb1 ?_
    rcases o_bif h with ⟨hb2, h⟩ | ⟨hb2, h⟩
    · refine ev_goT kc_55 3 (t := 54) (e := 39) (L' := [some (.ref 5), some (.int l1), some (.int l2), some (.int l3), some (.int s0)]) (st' := []) rfl hb2 ?_
      refine ev_go kc_55 2 (i' := 16) (L' := [some (.ref 5), some (.int l1), some (.int l2), some (.int (l3 + (1 : Int32))), some (.int s0)]) (st' := []) (M' := M0) rfl ?_
      obtain rfl := Option.some.inj h
      exact Ev.forget (mLe.kp (mLe.kp (mLe.kp (mLe.kp (mLe.sk mLe.nl))))) (hk.1 (l2, (l3 + (1 : Int32)), M0) rfl)
    · refine ev_goF kc_55 3 (t := 54) (e := 39) (L' := [some (.ref 5), some (.int l1), some (.int l2), some (.int l3), some (.int s0)]) (st' := []) rfl hb2 ?_
      refine ev_go kc_55 4 (i' := 43) (L' := [some (.ref 5), some (.int l1), some (.int l2), some (.int l3), some (.int s0)]) (st' := [.int s0, .ref 9, .int s0, .ref 9]) (M' := M0) rfl ?_
      obtain ⟨hg3, h⟩ := o_gd h
      refine ev_ia kc_55 rfl rfl hg3 ?_
      refine ev_go kc_55 2 (i' := 46) (L' := [some (.ref 5), some (.int l1), some (.int l2), some (.int l3), some (.int s0)]) (st' := [.int ((M0 9 (ix s0)) + (1 : Int32)), .int s0, .ref 9]) (M' := M0) rfl ?_
      obtain ⟨hg5, h⟩ := o_gd h
      obtain ⟨M4, hM4, h⟩ := o_wr h
      refine ev_is kc_55 rfl rfl hg5 hM4 ?_
      refine ev_go kc_55 4 (i' := 51) (L' := [some (.ref 5), some (.int l1), some (.int l2), some (.int l3), some (.int s0)]) (st' := [.int s0, .ref 9, .int l2]) (M' := M4) rfl ?_
      obtain ⟨hg6, h⟩ := o_gd h
      refine ev_ia kc_55 rfl rfl hg6 ?_
      refine ev_pm kc_55 rfl rfl rfl rfl (as := [.int l2, .int (M4 9 (ix s0))]) (rest := []) rfl rfl rfl (v := some (mMax l2 (M4 9 (ix s0)))) rfl ?_
      refine ev_go kc_55 3 (i' := 16) (L' := [some (.ref 5), some (.int l1), some (.int (mMax l2 (M4 9 (ix s0)))), some (.int (l3 + (1 : Int32))), some (.int s0)]) (st' := []) (M' := M4) rfl ?_
      obtain rfl := Option.some.inj h
      exact Ev.forget (mLe.kp (mLe.kp (mLe.kp (mLe.kp (mLe.sk mLe.nl))))) (hk.1 ((mMax l2 (M4 9 (ix s0))), (l3 + (1 : Int32)), M4) rfl)
def f_X6_greatestPart_16 (l1 : Int32) (l2 : Int32) (l3 : Int32) (M0 : mM) : Option ((Int32 × mM) ⊕ (Int32 × Int32 × mM)) :=
  bif decide ((256 : Int32) ≤ l3) then (some (.inl (l2, M0))) else (bif decide ((M0 5 4) ≤ l3) then (f_X6_greatestPart_33 l1 l2 l3 (-1 : Int32) M0) else (gd (mIn ((l3 * (8 : Int32)) + l1) 2048) (f_X6_greatestPart_33 l1 l2 l3 (M0 7 (ix ((l3 * (8 : Int32)) + l1))) M0)))
set_option maxRecDepth 8000 in
theorem e_X6_greatestPart_16 {l1 : Int32} {l2 : Int32} {l3 : Int32} {M0 : mM} {R : mZ} {out : ((Int32 × mM) ⊕ (Int32 × Int32 × mM))}  (h : f_X6_greatestPart_16 l1 l2 l3 M0 = some out) (hk : (∀ s' : Int32 × Int32 × mM, out = .inr s' → Ev (8) 55 16 [some (.ref 5), some (.int l1), some (.int s'.1), some (.int s'.2.1), none] [] (s'.2.2) R) ∧ (∀ e1 : (Int32 × mM), out = .inl e1 → R = emW eI e1)) : Ev (8) 55 16 [some (.ref 5), some (.int l1), some (.int l2), some (.int l3), none] [] M0 R := by
  unfold f_X6_greatestPart_16 at h
  rcases o_bif h with ⟨hb7, h⟩ | ⟨hb7, h⟩
  · refine ev_goT kc_55 3 (t := 56) (e := 19) (L' := [some (.ref 5), some (.int l1), some (.int l2), some (.int l3), none]) (st' := []) rfl hb7 ?_
    refine ev_go kc_55 1 (i' := 57) (L' := [some (.ref 5), some (.int l1), some (.int l2), some (.int l3), none]) (st' := [.int l2]) (M' := M0) rfl ?_
    obtain rfl := Option.some.inj h
    rw [show _ from (hk.2 _ rfl)]
    exact ev_ret kc_55 rfl rfl rfl
  · refine ev_goF kc_55 3 (t := 56) (e := 19) (L' := [some (.ref 5), some (.int l1), some (.int l2), some (.int l3), none]) (st' := []) rfl hb7 ?_
    rcases o_bif h with ⟨hb8, h⟩ | ⟨hb8, h⟩
    · refine ev_goT kc_55 4 (t := 32) (e := 23) (L' := [some (.ref 5), some (.int l1), some (.int l2), some (.int l3), none]) (st' := []) rfl hb8 ?_
      refine ev_go kc_55 1 (i' := 33) (L' := [some (.ref 5), some (.int l1), some (.int l2), some (.int l3), none]) (st' := [.int (-1 : Int32)]) (M' := M0) rfl ?_
      exact Ev.forget (mLe.kp (mLe.kp (mLe.kp (mLe.kp (mLe.sk mLe.nl))))) (e_X6_greatestPart_33  h hk)
    · refine ev_goF kc_55 4 (t := 32) (e := 23) (L' := [some (.ref 5), some (.int l1), some (.int l2), some (.int l3), none]) (st' := []) rfl hb8 ?_
      refine ev_go kc_55 7 (i' := 30) (L' := [some (.ref 5), some (.int l1), some (.int l2), some (.int l3), none]) (st' := [.int ((l3 * (8 : Int32)) + l1), .ref 7]) (M' := M0) rfl ?_
      obtain ⟨hg9, h⟩ := o_gd h
      refine ev_ia kc_55 rfl rfl hg9 ?_
      refine ev_go kc_55 1 (i' := 33) (L' := [some (.ref 5), some (.int l1), some (.int l2), some (.int l3), none]) (st' := [.int (M0 7 (ix ((l3 * (8 : Int32)) + l1)))]) (M' := M0) rfl ?_
      exact Ev.forget (mLe.kp (mLe.kp (mLe.kp (mLe.kp (mLe.sk mLe.nl))))) (e_X6_greatestPart_33  h hk)
def f_X6_greatestPart_l16 (l1 : Int32) (l2 : Int32) (l3 : Int32) (M0 : mM) : Option (Int32 × mM) :=
  wh 100000 (fun s : Int32 × Int32 × mM => f_X6_greatestPart_16 l1 s.1 s.2.1 s.2.2) (l2, l3, M0)
theorem e_X6_greatestPart_l16 {l1 : Int32} {l2 : Int32} {l3 : Int32} {M0 : mM} {R : mZ} {out : (Int32 × mM)}  (h : f_X6_greatestPart_l16 l1 l2 l3 M0 = some out) (hk : R = emW eI out) : Ev (8) 55 16 [some (.ref 5), some (.int l1), some (.int l2), some (.int l3), none] [] M0 R := by
  unfold f_X6_greatestPart_l16 at h
  exact wh_ev (P := fun s : Int32 × Int32 × mM => Ev (8) 55 16 [some (.ref 5), some (.int l1), some (.int s.1), some (.int s.2.1), none] [] s.2.2 R) (Q := fun e : (Int32 × mM) => R = emW eI e) (fun s o hb h1 h2 => e_X6_greatestPart_16  hb ⟨h1, h2⟩) 100000 _ _ h hk
def f_X6_greatestPart_2 (l1 : Int32) (l2 : Int32) (M0 : mM) : Option ((Int32 × mM) ⊕ (Int32 × mM)) :=
  bif decide ((792 : Int32) < l2) then (b1 (f_X6_greatestPart_l16 l1 (0 : Int32) (0 : Int32) M0) (fun r11 => some (.inl r11))) else (gd (mIn l2 793) (wr (mst M0 9 (ix l2) (0 : Int32)) (fun M12 => some (.inr ((l2 + (1 : Int32)), M12)))))
set_option maxRecDepth 8000 in
theorem e_X6_greatestPart_2 {l1 : Int32} {l2 : Int32} {M0 : mM} {R : mZ} {out : ((Int32 × mM) ⊕ (Int32 × mM))}  (h : f_X6_greatestPart_2 l1 l2 M0 = some out) (hk : (∀ s' : Int32 × mM, out = .inr s' → Ev (8) 55 2 [some (.ref 5), some (.int l1), some (.int s'.1), none, none] [] (s'.2) R) ∧ (∀ e1 : (Int32 × mM), out = .inl e1 → R = emW eI e1)) : Ev (8) 55 2 [some (.ref 5), some (.int l1), some (.int l2), none, none] [] M0 R := by
  unfold f_X6_greatestPart_2 at h
  rcases o_bif h with ⟨hb10, h⟩ | ⟨hb10, h⟩
  · refine ev_goT kc_55 3 (t := 12) (e := 5) (L' := [some (.ref 5), some (.int l1), some (.int l2), none, none]) (st' := []) rfl hb10 ?_
    refine ev_go kc_55 4 (i' := 16) (L' := [some (.ref 5), some (.int l1), some (.int (0 : Int32)), some (.int (0 : Int32)), none]) (st' := []) (M' := M0) rfl ?_
    obtain ⟨r11, hr11, h⟩ := o_b1 h
    obtain rfl := Option.some.inj h
    exact Ev.forget (mLe.kp (mLe.kp (mLe.kp (mLe.kp (mLe.sk mLe.nl))))) (e_X6_greatestPart_l16  hr11 (hk.2 _ rfl))
  · refine ev_goF kc_55 3 (t := 12) (e := 5) (L' := [some (.ref 5), some (.int l1), some (.int l2), none, none]) (st' := []) rfl hb10 ?_
    refine ev_go kc_55 4 (i' := 9) (L' := [some (.ref 5), some (.int l1), some (.int l2), none, none]) (st' := [.int (0 : Int32), .int l2, .ref 9]) (M' := M0) rfl ?_
    obtain ⟨hg13, h⟩ := o_gd h
    obtain ⟨M12, hM12, h⟩ := o_wr h
    refine ev_is kc_55 rfl rfl hg13 hM12 ?_
    refine ev_go kc_55 2 (i' := 2) (L' := [some (.ref 5), some (.int l1), some (.int (l2 + (1 : Int32))), none, none]) (st' := []) (M' := M12) rfl ?_
    obtain rfl := Option.some.inj h
    exact Ev.forget (mLe.kp (mLe.kp (mLe.kp (mLe.sk (mLe.sk mLe.nl))))) (hk.1 ((l2 + (1 : Int32)), M12) rfl)
def f_X6_greatestPart_l2 (l1 : Int32) (l2 : Int32) (M0 : mM) : Option (Int32 × mM) :=
  wh 100000 (fun s : Int32 × mM => f_X6_greatestPart_2 l1 s.1 s.2) (l2, M0)
theorem e_X6_greatestPart_l2 {l1 : Int32} {l2 : Int32} {M0 : mM} {R : mZ} {out : (Int32 × mM)}  (h : f_X6_greatestPart_l2 l1 l2 M0 = some out) (hk : R = emW eI out) : Ev (8) 55 2 [some (.ref 5), some (.int l1), some (.int l2), none, none] [] M0 R := by
  unfold f_X6_greatestPart_l2 at h
  exact wh_ev (P := fun s : Int32 × mM => Ev (8) 55 2 [some (.ref 5), some (.int l1), some (.int s.1), none, none] [] s.2 R) (Q := fun e : (Int32 × mM) => R = emW eI e) (fun s o hb h1 h2 => e_X6_greatestPart_2  hb ⟨h1, h2⟩) 100000 _ _ h hk
def f_X6_greatestPart (p1 : Int32) (M0 : mM) : Option (Int32 × mM) :=
  f_X6_greatestPart_l2 p1 (0 : Int32) M0
set_option maxRecDepth 8000 in
theorem c_X6_greatestPart {p1 : Int32} {M0 : mM} {out : (Int32 × mM)} (h : f_X6_greatestPart p1 M0 = some out) : Cs (8) 55 [.ref 5, .int p1] M0 (emW eI out) := by
  generalize hk : emW eI out = R
  replace hk := hk.symm
  unfold f_X6_greatestPart at h
  show Ev (8) 55 0 [some (.ref 5), some (.int p1), none, none, none] [] M0 R
  refine ev_go kc_55 2 (i' := 2) (L' := [some (.ref 5), some (.int p1), some (.int (0 : Int32)), none, none]) (st' := []) (M' := M0) rfl ?_
  exact Ev.forget (mLe.kp (mLe.kp (mLe.kp (mLe.sk (mLe.sk mLe.nl))))) (e_X6_greatestPart_l2  h hk)
/-- WakeTower$Senses.bestToAsk(I)I: 54, W -/
theorem kc_54 : mKc 54 = k_X6_bestToAsk := rfl
def f_X6_bestToAsk_6 (l1 : Int32) (l2 : Int32) (l3 : Int32) (l4 : Int32) (M0 : mM) : Option ((Int32 × mM) ⊕ (Int32 × Int32 × Int32 × mM)) :=
  bif decide ((8 : Int32) ≤ l4) then (some (.inl (l2, M0))) else (bif decide ((M0 5 4) < (2 : Int32)) then (some (.inr (l2, l3, (l4 + (1 : Int32)), M0))) else (bif (f_X11_has l1 l4) then (b2 (f_X6_greatestPart l4 M0) (fun v5 M5 => bif decide (l2 = (-1 : Int32)) then (some (.inr (l4, v5, (l4 + (1 : Int32)), M5))) else (bif decide (l3 ≤ v5) then (some (.inr (l2, l3, (l4 + (1 : Int32)), M5))) else (some (.inr (l4, v5, (l4 + (1 : Int32)), M5)))))) else (some (.inr (l2, l3, (l4 + (1 : Int32)), M0)))))
set_option maxRecDepth 8000 in
theorem e_X6_bestToAsk_6 {l1 : Int32} {l2 : Int32} {l3 : Int32} {l4 : Int32} {M0 : mM} {R : mZ} {out : ((Int32 × mM) ⊕ (Int32 × Int32 × Int32 × mM))}  (h : f_X6_bestToAsk_6 l1 l2 l3 l4 M0 = some out) (hk : (∀ s' : Int32 × Int32 × Int32 × mM, out = .inr s' → Ev (9) 54 6 [some (.ref 5), some (.int l1), some (.int s'.1), some (.int s'.2.1), some (.int s'.2.2.1), none] [] (s'.2.2.2) R) ∧ (∀ e1 : (Int32 × mM), out = .inl e1 → R = emW eI e1)) : Ev (9) 54 6 [some (.ref 5), some (.int l1), some (.int l2), some (.int l3), some (.int l4), none] [] M0 R := by
  unfold f_X6_bestToAsk_6 at h
  rcases o_bif h with ⟨hb1, h⟩ | ⟨hb1, h⟩
  · refine ev_goT kc_54 3 (t := 33) (e := 9) (L' := [some (.ref 5), some (.int l1), some (.int l2), some (.int l3), some (.int l4), none]) (st' := []) rfl hb1 ?_
    refine ev_go kc_54 1 (i' := 34) (L' := [some (.ref 5), some (.int l1), some (.int l2), some (.int l3), some (.int l4), none]) (st' := [.int l2]) (M' := M0) rfl ?_
    obtain rfl := Option.some.inj h
    rw [show _ from (hk.2 _ rfl)]
    exact ev_ret kc_54 rfl rfl rfl
  · refine ev_goF kc_54 3 (t := 33) (e := 9) (L' := [some (.ref 5), some (.int l1), some (.int l2), some (.int l3), some (.int l4), none]) (st' := []) rfl hb1 ?_
    rcases o_bif h with ⟨hb2, h⟩ | ⟨hb2, h⟩
    · refine ev_goT kc_54 4 (t := 31) (e := 13) (L' := [some (.ref 5), some (.int l1), some (.int l2), some (.int l3), some (.int l4), none]) (st' := []) rfl hb2 ?_
      refine ev_go kc_54 2 (i' := 6) (L' := [some (.ref 5), some (.int l1), some (.int l2), some (.int l3), some (.int (l4 + (1 : Int32))), none]) (st' := []) (M' := M0) rfl ?_
      obtain rfl := Option.some.inj h
      exact Ev.forget (mLe.kp (mLe.kp (mLe.kp (mLe.kp (mLe.kp (mLe.sk mLe.nl)))))) (hk.1 (l2, l3, (l4 + (1 : Int32)), M0) rfl)
    · refine ev_goF kc_54 4 (t := 31) (e := 13) (L' := [some (.ref 5), some (.int l1), some (.int l2), some (.int l3), some (.int l4), none]) (st' := []) rfl hb2 ?_
      refine ev_go kc_54 2 (i' := 15) (L' := [some (.ref 5), some (.int l1), some (.int l2), some (.int l3), some (.int l4), none]) (st' := [.int l4, .int l1]) (M' := M0) rfl ?_
      refine ev_cl0 (ins := .invokestatic 62) kc_54 rfl rfl (a := 178) (as := [.int l1, .int l4]) (rest := []) rfl rfl (Cs.deep (c_X11_has (M0 := M0)) (by decide)) ?_
      rcases o_bif h with ⟨hb4, h⟩ | ⟨hb4, h⟩
      · refine ev_goF kc_54 1 (t := 31) (e := 17) (L' := [some (.ref 5), some (.int l1), some (.int l2), some (.int l3), some (.int l4), none]) (st' := []) rfl (mB_e0f hb4) ?_
        refine ev_go kc_54 2 (i' := 19) (L' := [some (.ref 5), some (.int l1), some (.int l2), some (.int l3), some (.int l4), none]) (st' := [.int l4, .ref 5]) (M' := M0) rfl ?_
        obtain ⟨v5, M5, hc5, h⟩ := o_b2 h
        refine ev_cl0 (ins := .invokevirtual 65) kc_54 rfl rfl (a := 55) (as := [.ref 5, .int l4]) (rest := []) rfl rfl (Cs.deep (c_X6_greatestPart hc5) (by decide)) ?_
        rcases o_bif h with ⟨hb6, h⟩ | ⟨hb6, h⟩
        · refine ev_goT kc_54 4 (t := 27) (e := 24) (L' := [some (.ref 5), some (.int l1), some (.int l2), some (.int l3), some (.int l4), some (.int v5)]) (st' := []) rfl hb6 ?_
          refine ev_go kc_54 6 (i' := 6) (L' := [some (.ref 5), some (.int l1), some (.int l4), some (.int v5), some (.int (l4 + (1 : Int32))), some (.int v5)]) (st' := []) (M' := M5) rfl ?_
          obtain rfl := Option.some.inj h
          exact Ev.forget (mLe.kp (mLe.kp (mLe.kp (mLe.kp (mLe.kp (mLe.sk mLe.nl)))))) (hk.1 (l4, v5, (l4 + (1 : Int32)), M5) rfl)
        · refine ev_goF kc_54 4 (t := 27) (e := 24) (L' := [some (.ref 5), some (.int l1), some (.int l2), some (.int l3), some (.int l4), some (.int v5)]) (st' := []) rfl hb6 ?_
          rcases o_bif h with ⟨hb7, h⟩ | ⟨hb7, h⟩
          · refine ev_goT kc_54 3 (t := 31) (e := 27) (L' := [some (.ref 5), some (.int l1), some (.int l2), some (.int l3), some (.int l4), some (.int v5)]) (st' := []) rfl hb7 ?_
            refine ev_go kc_54 2 (i' := 6) (L' := [some (.ref 5), some (.int l1), some (.int l2), some (.int l3), some (.int (l4 + (1 : Int32))), some (.int v5)]) (st' := []) (M' := M5) rfl ?_
            obtain rfl := Option.some.inj h
            exact Ev.forget (mLe.kp (mLe.kp (mLe.kp (mLe.kp (mLe.kp (mLe.sk mLe.nl)))))) (hk.1 (l2, l3, (l4 + (1 : Int32)), M5) rfl)
          · refine ev_goF kc_54 3 (t := 31) (e := 27) (L' := [some (.ref 5), some (.int l1), some (.int l2), some (.int l3), some (.int l4), some (.int v5)]) (st' := []) rfl hb7 ?_
            refine ev_go kc_54 6 (i' := 6) (L' := [some (.ref 5), some (.int l1), some (.int l4), some (.int v5), some (.int (l4 + (1 : Int32))), some (.int v5)]) (st' := []) (M' := M5) rfl ?_
            obtain rfl := Option.some.inj h
            exact Ev.forget (mLe.kp (mLe.kp (mLe.kp (mLe.kp (mLe.kp (mLe.sk mLe.nl)))))) (hk.1 (l4, v5, (l4 + (1 : Int32)), M5) rfl)
      · refine ev_goT kc_54 1 (t := 31) (e := 17) (L' := [some (.ref 5), some (.int l1), some (.int l2), some (.int l3), some (.int l4), none]) (st' := []) rfl (mB_e0t hb4) ?_
        refine ev_go kc_54 2 (i' := 6) (L' := [some (.ref 5), some (.int l1), some (.int l2), some (.int l3), some (.int (l4 + (1 : Int32))), none]) (st' := []) (M' := M0) rfl ?_
        obtain rfl := Option.some.inj h
        exact Ev.forget (mLe.kp (mLe.kp (mLe.kp (mLe.kp (mLe.kp (mLe.sk mLe.nl)))))) (hk.1 (l2, l3, (l4 + (1 : Int32)), M0) rfl)
def f_X6_bestToAsk_l6 (l1 : Int32) (l2 : Int32) (l3 : Int32) (l4 : Int32) (M0 : mM) : Option (Int32 × mM) :=
  wh 100000 (fun s : Int32 × Int32 × Int32 × mM => f_X6_bestToAsk_6 l1 s.1 s.2.1 s.2.2.1 s.2.2.2) (l2, l3, l4, M0)
theorem e_X6_bestToAsk_l6 {l1 : Int32} {l2 : Int32} {l3 : Int32} {l4 : Int32} {M0 : mM} {R : mZ} {out : (Int32 × mM)}  (h : f_X6_bestToAsk_l6 l1 l2 l3 l4 M0 = some out) (hk : R = emW eI out) : Ev (9) 54 6 [some (.ref 5), some (.int l1), some (.int l2), some (.int l3), some (.int l4), none] [] M0 R := by
  unfold f_X6_bestToAsk_l6 at h
  exact wh_ev (P := fun s : Int32 × Int32 × Int32 × mM => Ev (9) 54 6 [some (.ref 5), some (.int l1), some (.int s.1), some (.int s.2.1), some (.int s.2.2.1), none] [] s.2.2.2 R) (Q := fun e : (Int32 × mM) => R = emW eI e) (fun s o hb h1 h2 => e_X6_bestToAsk_6  hb ⟨h1, h2⟩) 100000 _ _ h hk
def f_X6_bestToAsk (p1 : Int32) (M0 : mM) : Option (Int32 × mM) :=
  f_X6_bestToAsk_l6 p1 (-1 : Int32) (0 : Int32) (0 : Int32) M0
set_option maxRecDepth 8000 in
theorem c_X6_bestToAsk {p1 : Int32} {M0 : mM} {out : (Int32 × mM)} (h : f_X6_bestToAsk p1 M0 = some out) : Cs (9) 54 [.ref 5, .int p1] M0 (emW eI out) := by
  generalize hk : emW eI out = R
  replace hk := hk.symm
  unfold f_X6_bestToAsk at h
  show Ev (9) 54 0 [some (.ref 5), some (.int p1), none, none, none, none] [] M0 R
  refine ev_go kc_54 6 (i' := 6) (L' := [some (.ref 5), some (.int p1), some (.int (-1 : Int32)), some (.int (0 : Int32)), some (.int (0 : Int32)), none]) (st' := []) (M' := M0) rfl ?_
  exact Ev.forget (mLe.kp (mLe.kp (mLe.kp (mLe.kp (mLe.kp (mLe.sk mLe.nl)))))) (e_X6_bestToAsk_l6  h hk)
/-- WakeTower$Tape.hasRoom()Z: 56, R -/
theorem kc_56 : mKc 56 = k_X7_hasRoom := rfl
def f_X7_hasRoom  (M0 : mM) : Option Bool :=
  bif decide ((400 : Int32) < ((M0 1 1) + (20 : Int32))) then (some false) else (some true)
set_option maxRecDepth 8000 in
theorem c_X7_hasRoom  {M0 : mM} {out : Bool} (h : f_X7_hasRoom M0 = some out) : Cs (0) 56 [.ref 1] M0 (emR eB M0 out) := by
  generalize hk : emR eB M0 out = R
  replace hk := hk.symm
  unfold f_X7_hasRoom at h
  show Ev (0) 56 0 [some (.ref 1)] [] M0 R
  rcases o_bif h with ⟨hb1, h⟩ | ⟨hb1, h⟩
  · refine ev_goT kc_56 6 (t := 8) (e := 6) (L' := [some (.ref 1)]) (st' := []) rfl hb1 ?_
    refine ev_go kc_56 1 (i' := 9) (L' := [some (.ref 1)]) (st' := [.int (0 : Int32)]) (M' := M0) rfl ?_
    obtain rfl := Option.some.inj h
    rw [hk]
    exact ev_ret kc_56 rfl rfl rfl
  · refine ev_goF kc_56 6 (t := 8) (e := 6) (L' := [some (.ref 1)]) (st' := []) rfl hb1 ?_
    refine ev_go kc_56 2 (i' := 9) (L' := [some (.ref 1)]) (st' := [.int (1 : Int32)]) (M' := M0) rfl ?_
    obtain rfl := Option.some.inj h
    rw [hk]
    exact ev_ret kc_56 rfl rfl rfl
/-- WakeTower$Tape.append(I)V: 57, W -/
theorem kc_57 : mKc 57 = k_X7_append := rfl
def f_X7_append_2 (l1 : Int32) (l2 : Int32) (M0 : mM) : Option ((Unit × mM) ⊕ (Int32 × mM)) :=
  bif decide (l2 < 0) then (some (.inl ((), M0))) else (bif decide ((M0 1 1) < 0) then (some (.inr ((l2 + (-8 : Int32)), M0))) else (bif decide ((400 : Int32) ≤ (M0 1 1)) then (some (.inr ((l2 + (-8 : Int32)), M0))) else (gd (mIn (M0 1 1) 400) (wr (mst M0 2 (ix (M0 1 1)) ((ushr l1 l2) &&& (255 : Int32))) (fun M4 => wr (mst M4 1 1 ((M4 1 1) + (1 : Int32))) (fun M6 => some (.inr ((l2 + (-8 : Int32)), M6))))))))
set_option maxRecDepth 8000 in
theorem e_X7_append_2 {l1 : Int32} {l2 : Int32} {M0 : mM} {R : mZ} {out : ((Unit × mM) ⊕ (Int32 × mM))}  (h : f_X7_append_2 l1 l2 M0 = some out) (hk : (∀ s' : Int32 × mM, out = .inr s' → Ev (0) 57 2 [some (.ref 1), some (.int l1), some (.int s'.1)] [] (s'.2) R) ∧ (∀ e1 : (Unit × mM), out = .inl e1 → R = emW eU e1)) : Ev (0) 57 2 [some (.ref 1), some (.int l1), some (.int l2)] [] M0 R := by
  unfold f_X7_append_2 at h
  rcases o_bif h with ⟨hb1, h⟩ | ⟨hb1, h⟩
  · refine ev_goT kc_57 2 (t := 29) (e := 4) (L' := [some (.ref 1), some (.int l1), some (.int l2)]) (st' := []) rfl hb1 ?_
    obtain rfl := Option.some.inj h
    rw [show _ from (hk.2 _ rfl)]
    exact ev_vret kc_57 rfl rfl rfl
  · refine ev_goF kc_57 2 (t := 29) (e := 4) (L' := [some (.ref 1), some (.int l1), some (.int l2)]) (st' := []) rfl hb1 ?_
    rcases o_bif h with ⟨hb2, h⟩ | ⟨hb2, h⟩
    · refine ev_goT kc_57 3 (t := 27) (e := 7) (L' := [some (.ref 1), some (.int l1), some (.int l2)]) (st' := []) rfl hb2 ?_
      refine ev_go kc_57 2 (i' := 2) (L' := [some (.ref 1), some (.int l1), some (.int (l2 + (-8 : Int32)))]) (st' := []) (M' := M0) rfl ?_
      obtain rfl := Option.some.inj h
      exact Ev.forget (mLe.kp (mLe.kp (mLe.kp mLe.nl))) (hk.1 ((l2 + (-8 : Int32)), M0) rfl)
    · refine ev_goF kc_57 3 (t := 27) (e := 7) (L' := [some (.ref 1), some (.int l1), some (.int l2)]) (st' := []) rfl hb2 ?_
      rcases o_bif h with ⟨hb3, h⟩ | ⟨hb3, h⟩
      · refine ev_goT kc_57 4 (t := 27) (e := 11) (L' := [some (.ref 1), some (.int l1), some (.int l2)]) (st' := []) rfl hb3 ?_
        refine ev_go kc_57 2 (i' := 2) (L' := [some (.ref 1), some (.int l1), some (.int (l2 + (-8 : Int32)))]) (st' := []) (M' := M0) rfl ?_
        obtain rfl := Option.some.inj h
        exact Ev.forget (mLe.kp (mLe.kp (mLe.kp mLe.nl))) (hk.1 ((l2 + (-8 : Int32)), M0) rfl)
      · refine ev_goF kc_57 4 (t := 27) (e := 11) (L' := [some (.ref 1), some (.int l1), some (.int l2)]) (st' := []) rfl hb3 ?_
        refine ev_go kc_57 9 (i' := 20) (L' := [some (.ref 1), some (.int l1), some (.int l2)]) (st' := [.int ((ushr l1 l2) &&& (255 : Int32)), .int (M0 1 1), .ref 2]) (M' := M0) rfl ?_
        obtain ⟨hg5, h⟩ := o_gd h
        obtain ⟨M4, hM4, h⟩ := o_wr h
        refine ev_is kc_57 rfl rfl hg5 hM4 ?_
        refine ev_go kc_57 5 (i' := 26) (L' := [some (.ref 1), some (.int l1), some (.int l2)]) (st' := [.int ((M4 1 1) + (1 : Int32)), .ref 1]) (M' := M4) rfl ?_
        obtain ⟨M6, hM6, h⟩ := o_wr h
        refine ev_pf kc_57 rfl rfl rfl rfl (fun hc => absurd hc (by decide)) hM6 ?_
        refine ev_go kc_57 2 (i' := 2) (L' := [some (.ref 1), some (.int l1), some (.int (l2 + (-8 : Int32)))]) (st' := []) (M' := M6) rfl ?_
        obtain rfl := Option.some.inj h
        exact Ev.forget (mLe.kp (mLe.kp (mLe.kp mLe.nl))) (hk.1 ((l2 + (-8 : Int32)), M6) rfl)
def f_X7_append_l2 (l1 : Int32) (l2 : Int32) (M0 : mM) : Option (Unit × mM) :=
  wh 100000 (fun s : Int32 × mM => f_X7_append_2 l1 s.1 s.2) (l2, M0)
theorem e_X7_append_l2 {l1 : Int32} {l2 : Int32} {M0 : mM} {R : mZ} {out : (Unit × mM)}  (h : f_X7_append_l2 l1 l2 M0 = some out) (hk : R = emW eU out) : Ev (0) 57 2 [some (.ref 1), some (.int l1), some (.int l2)] [] M0 R := by
  unfold f_X7_append_l2 at h
  exact wh_ev (P := fun s : Int32 × mM => Ev (0) 57 2 [some (.ref 1), some (.int l1), some (.int s.1)] [] s.2 R) (Q := fun e : (Unit × mM) => R = emW eU e) (fun s o hb h1 h2 => e_X7_append_2  hb ⟨h1, h2⟩) 100000 _ _ h hk
def f_X7_append (p1 : Int32) (M0 : mM) : Option (Unit × mM) :=
  f_X7_append_l2 p1 (24 : Int32) M0
set_option maxRecDepth 8000 in
theorem c_X7_append {p1 : Int32} {M0 : mM} {out : (Unit × mM)} (h : f_X7_append p1 M0 = some out) : Cs (0) 57 [.ref 1, .int p1] M0 (emW eU out) := by
  generalize hk : emW eU out = R
  replace hk := hk.symm
  unfold f_X7_append at h
  show Ev (0) 57 0 [some (.ref 1), some (.int p1), none] [] M0 R
  refine ev_go kc_57 2 (i' := 2) (L' := [some (.ref 1), some (.int p1), some (.int (24 : Int32))]) (st' := []) (M' := M0) rfl ?_
  exact Ev.forget (mLe.kp (mLe.kp (mLe.kp mLe.nl))) (e_X7_append_l2  h hk)
/-- WakeTower$Tape.isLetter(I)Z: 63, R -/
theorem kc_63 : mKc 63 = k_X7_isLetter := rfl
def f_X7_isLetter (p1 : Int32) (M0 : mM) : Option Bool :=
  b1 (f_X7_byteAt p1 M0) (fun v1 => bif decide (v1 < (97 : Int32)) then (some false) else (bif decide ((122 : Int32) < v1) then (some false) else (some true)))
set_option maxRecDepth 8000 in
theorem c_X7_isLetter {p1 : Int32} {M0 : mM} {out : Bool} (h : f_X7_isLetter p1 M0 = some out) : Cs (1) 63 [.ref 1, .int p1] M0 (emR eB M0 out) := by
  generalize hk : emR eB M0 out = R
  replace hk := hk.symm
  unfold f_X7_isLetter at h
  show Ev (1) 63 0 [some (.ref 1), some (.int p1), none] [] M0 R
  refine ev_go kc_63 2 (i' := 2) (L' := [some (.ref 1), some (.int p1), none]) (st' := [.int p1, .ref 1]) (M' := M0) rfl ?_
  obtain ⟨v1, hc1, h⟩ := o_b1 h
  refine ev_cl0 (ins := .invokevirtual 29) kc_63 rfl rfl (a := 58) (as := [.ref 1, .int p1]) (rest := []) rfl rfl (Cs.deep (c_X7_byteAt (M0 := M0) hc1) (by decide)) ?_
  rcases o_bif h with ⟨hb2, h⟩ | ⟨hb2, h⟩
  · refine ev_goT kc_63 4 (t := 12) (e := 7) (L' := [some (.ref 1), some (.int p1), some (.int v1)]) (st' := []) rfl hb2 ?_
    refine ev_go kc_63 1 (i' := 13) (L' := [some (.ref 1), some (.int p1), some (.int v1)]) (st' := [.int (0 : Int32)]) (M' := M0) rfl ?_
    obtain rfl := Option.some.inj h
    rw [hk]
    exact ev_ret kc_63 rfl rfl rfl
  · refine ev_goF kc_63 4 (t := 12) (e := 7) (L' := [some (.ref 1), some (.int p1), some (.int v1)]) (st' := []) rfl hb2 ?_
    rcases o_bif h with ⟨hb3, h⟩ | ⟨hb3, h⟩
    · refine ev_goT kc_63 3 (t := 12) (e := 10) (L' := [some (.ref 1), some (.int p1), some (.int v1)]) (st' := []) rfl hb3 ?_
      refine ev_go kc_63 1 (i' := 13) (L' := [some (.ref 1), some (.int p1), some (.int v1)]) (st' := [.int (0 : Int32)]) (M' := M0) rfl ?_
      obtain rfl := Option.some.inj h
      rw [hk]
      exact ev_ret kc_63 rfl rfl rfl
    · refine ev_goF kc_63 3 (t := 12) (e := 10) (L' := [some (.ref 1), some (.int p1), some (.int v1)]) (st' := []) rfl hb3 ?_
      refine ev_go kc_63 2 (i' := 13) (L' := [some (.ref 1), some (.int p1), some (.int v1)]) (st' := [.int (1 : Int32)]) (M' := M0) rfl ?_
      obtain rfl := Option.some.inj h
      rw [hk]
      exact ev_ret kc_63 rfl rfl rfl
/-- WakeTower$Tape.must(Ljava/lang/String;)Z: 65, W -/
theorem kc_65 : mKc 65 = k_X7_must := rfl
def f_X7_must (o1 : Nat) (M0 : mM) : Option (Bool × mM) :=
  gd (mTxB o1) (b2 (f_X7_takes o1 M0) (fun v1 M1 => bif v1 then (some (true, M1)) else (b2 (f_X7_wrong (M1 1 2) M1) (fun v3 M3 => bif v3 then (some (true, M3)) else (some (false, M3))))))
set_option maxRecDepth 8000 in
theorem c_X7_must {o1 : Nat} {M0 : mM} {out : (Bool × mM)} (h : f_X7_must o1 M0 = some out) : Cs (9) 65 [.ref 1, .ref o1] M0 (emW eB out) := by
  generalize hk : emW eB out = R
  replace hk := hk.symm
  unfold f_X7_must at h
  obtain ⟨go1, h⟩ := o_gd h
  show Ev (9) 65 0 [some (.ref 1), some (.ref o1)] [] M0 R
  refine ev_go kc_65 2 (i' := 2) (L' := [some (.ref 1), some (.ref o1)]) (st' := [.ref o1, .ref 1]) (M' := M0) rfl ?_
  obtain ⟨v1, M1, hc1, h⟩ := o_b2 h
  refine ev_cl0 (ins := .invokevirtual 42) kc_65 rfl rfl (a := 64) (as := [.ref 1, .ref o1]) (rest := []) rfl rfl (Cs.deep (c_X7_takes hc1) (by decide)) ?_
  rcases o_bif h with ⟨hb2, h⟩ | ⟨hb2, h⟩
  · refine ev_goT kc_65 1 (t := 9) (e := 4) (L' := [some (.ref 1), some (.ref o1)]) (st' := []) rfl (mB_n0t hb2) ?_
    refine ev_go kc_65 2 (i' := 12) (L' := [some (.ref 1), some (.ref o1)]) (st' := [.int (1 : Int32)]) (M' := M1) rfl ?_
    obtain rfl := Option.some.inj h
    rw [hk]
    exact ev_ret kc_65 rfl rfl rfl
  · refine ev_goF kc_65 1 (t := 9) (e := 4) (L' := [some (.ref 1), some (.ref o1)]) (st' := []) rfl (mB_n0f hb2) ?_
    refine ev_go kc_65 3 (i' := 7) (L' := [some (.ref 1), some (.ref o1)]) (st' := [.int (M1 1 2), .ref 1]) (M' := M1) rfl ?_
    obtain ⟨v3, M3, hc3, h⟩ := o_b2 h
    refine ev_cl0 (ins := .invokevirtual 46) kc_65 rfl rfl (a := 62) (as := [.ref 1, .int (M1 1 2)]) (rest := []) rfl rfl (Cs.deep (c_X7_wrong hc3) (by decide)) ?_
    rcases o_bif h with ⟨hb4, h⟩ | ⟨hb4, h⟩
    · refine ev_goF kc_65 1 (t := 11) (e := 9) (L' := [some (.ref 1), some (.ref o1)]) (st' := []) rfl (mB_e0f hb4) ?_
      refine ev_go kc_65 2 (i' := 12) (L' := [some (.ref 1), some (.ref o1)]) (st' := [.int (1 : Int32)]) (M' := M3) rfl ?_
      obtain rfl := Option.some.inj h
      rw [hk]
      exact ev_ret kc_65 rfl rfl rfl
    · refine ev_goT kc_65 1 (t := 11) (e := 9) (L' := [some (.ref 1), some (.ref o1)]) (st' := []) rfl (mB_e0t hb4) ?_
      refine ev_go kc_65 1 (i' := 12) (L' := [some (.ref 1), some (.ref o1)]) (st' := [.int (0 : Int32)]) (M' := M3) rfl ?_
      obtain rfl := Option.some.inj h
      rw [hk]
      exact ev_ret kc_65 rfl rfl rfl
/-- WakeTower$Tape.letters(I)I: 69, W -/
theorem kc_69 : mKc 69 = k_X7_letters := rfl
def f_X7_letters_32 (M0 : mM) : Option (Int32 × mM) :=
  b2 (f_X7_wrong (M0 1 2) M0) (fun v1 M1 => some ((0 : Int32), M1))
set_option maxRecDepth 8000 in
theorem e_X7_letters_32 {M0 : mM} {R : mZ} {out : (Int32 × mM)}  (h : f_X7_letters_32 M0 = some out) (hk : R = emW eI out) : Ev (2) 69 32 [some (.ref 1), none, none, none, none, none] [] M0 R := by
  unfold f_X7_letters_32 at h
  refine ev_go kc_69 3 (i' := 35) (L' := [some (.ref 1), none, none, none, none, none]) (st' := [.int (M0 1 2), .ref 1]) (M' := M0) rfl ?_
  obtain ⟨v1, M1, hc1, h⟩ := o_b2 h
  refine ev_cl0 (ins := .invokevirtual 46) kc_69 rfl rfl (a := 62) (as := [.ref 1, .int (M0 1 2)]) (rest := []) rfl rfl (Cs.deep (c_X7_wrong hc1) (by decide)) ?_
  refine ev_go kc_69 2 (i' := 38) (L' := [some (.ref 1), none, none, none, none, none]) (st' := [.int (0 : Int32)]) (M' := M1) rfl ?_
  obtain rfl := Option.some.inj h
  rw [hk]
  exact ev_ret kc_69 rfl rfl rfl
def f_X7_letters_57 (l2 : Int32) (l3 : Int32) (M0 : mM) : Option (Int32 × mM) :=
  b2 (f_X7_moveTo l3 M0) (fun v2 M2 => some (l2, M2))
set_option maxRecDepth 8000 in
theorem e_X7_letters_57 {l2 : Int32} {l3 : Int32} {M0 : mM} {R : mZ} {out : (Int32 × mM)}  (h : f_X7_letters_57 l2 l3 M0 = some out) (hk : R = emW eI out) : Ev (2) 69 57 [some (.ref 1), none, some (.int l2), some (.int l3), none, none] [] M0 R := by
  unfold f_X7_letters_57 at h
  refine ev_go kc_69 2 (i' := 59) (L' := [some (.ref 1), none, some (.int l2), some (.int l3), none, none]) (st' := [.int l3, .ref 1]) (M' := M0) rfl ?_
  obtain ⟨v2, M2, hc2, h⟩ := o_b2 h
  refine ev_cl0 (ins := .invokevirtual 25) kc_69 rfl rfl (a := 60) (as := [.ref 1, .int l3]) (rest := []) rfl rfl (Cs.deep (c_X7_moveTo hc2) (by decide)) ?_
  refine ev_go kc_69 1 (i' := 61) (L' := [some (.ref 1), none, some (.int l2), some (.int l3), none, none]) (st' := [.int l2]) (M' := M2) rfl ?_
  obtain rfl := Option.some.inj h
  rw [hk]
  exact ev_ret kc_69 rfl rfl rfl
def f_X7_letters_50 (l2 : Int32) (l3 : Int32) (M0 : mM) : Option (Int32 × mM) :=
  bif decide (¬ l2 = 0) then (f_X7_letters_57 l2 l3 M0) else (b2 (f_X7_wrong (M0 1 2) M0) (fun v4 M4 => f_X7_letters_57 l2 l3 M4))
set_option maxRecDepth 8000 in
theorem e_X7_letters_50 {l2 : Int32} {l3 : Int32} {M0 : mM} {R : mZ} {out : (Int32 × mM)}  (h : f_X7_letters_50 l2 l3 M0 = some out) (hk : R = emW eI out) : Ev (2) 69 50 [some (.ref 1), none, some (.int l2), some (.int l3), none, none] [] M0 R := by
  unfold f_X7_letters_50 at h
  rcases o_bif h with ⟨hb3, h⟩ | ⟨hb3, h⟩
  · refine ev_goT kc_69 2 (t := 57) (e := 52) (L' := [some (.ref 1), none, some (.int l2), some (.int l3), none, none]) (st' := []) rfl hb3 ?_
    exact Ev.forget (mLe.kp (mLe.sk (mLe.kp (mLe.kp (mLe.sk (mLe.sk mLe.nl)))))) (e_X7_letters_57  h hk)
  · refine ev_goF kc_69 2 (t := 57) (e := 52) (L' := [some (.ref 1), none, some (.int l2), some (.int l3), none, none]) (st' := []) rfl hb3 ?_
    refine ev_go kc_69 3 (i' := 55) (L' := [some (.ref 1), none, some (.int l2), some (.int l3), none, none]) (st' := [.int (M0 1 2), .ref 1]) (M' := M0) rfl ?_
    obtain ⟨v4, M4, hc4, h⟩ := o_b2 h
    refine ev_cl0 (ins := .invokevirtual 46) kc_69 rfl rfl (a := 62) (as := [.ref 1, .int (M0 1 2)]) (rest := []) rfl rfl (Cs.deep (c_X7_wrong hc4) (by decide)) ?_
    refine ev_go kc_69 1 (i' := 57) (L' := [some (.ref 1), none, some (.int l2), some (.int l3), none, none]) (st' := []) (M' := M4) rfl ?_
    exact Ev.forget (mLe.kp (mLe.sk (mLe.kp (mLe.kp (mLe.sk (mLe.sk mLe.nl)))))) (e_X7_letters_57  h hk)
def f_X7_letters_8 (l1 : Int32) (l2 : Int32) (l3 : Int32) (l4 : Int32) (M0 : mM) : Option ((Int32 × mM) ⊕ (Int32 × Int32 × Int32)) :=
  bif decide ((400 : Int32) ≤ l4) then (b1 (f_X7_letters_50 l2 l3 M0) (fun r6 => some (.inl r6))) else (b1 (f_X7_isLetter l4 M0) (fun v7 => bif v7 then (b1 (f_X7_byteAt l4 M0) (fun v9 => bif decide ((8 : Int32) ≤ (v9 - (97 : Int32))) then (b1 (f_X7_letters_32 M0) (fun r11 => some (.inl r11))) else (bif (f_X11_has l2 (v9 - (97 : Int32))) then (b1 (f_X7_letters_32 M0) (fun r14 => some (.inl r14))) else (bif (f_X11_has l1 (v9 - (97 : Int32))) then (some (.inr ((l2 ||| (f_X11_bit (v9 - (97 : Int32)))), (l4 + (1 : Int32)), (l4 + (1 : Int32))))) else (b1 (f_X7_letters_32 M0) (fun r18 => some (.inl r18))))))) else (b1 (f_X7_letters_50 l2 l3 M0) (fun r19 => some (.inl r19)))))
set_option maxRecDepth 8000 in
theorem e_X7_letters_8 {l1 : Int32} {l2 : Int32} {l3 : Int32} {l4 : Int32} {M0 : mM} {R : mZ} {out : ((Int32 × mM) ⊕ (Int32 × Int32 × Int32))}  (h : f_X7_letters_8 l1 l2 l3 l4 M0 = some out) (hk : (∀ s' : Int32 × Int32 × Int32, out = .inr s' → Ev (2) 69 8 [some (.ref 1), some (.int l1), some (.int s'.1), some (.int s'.2.1), some (.int s'.2.2), none] [] M0 R) ∧ (∀ e1 : (Int32 × mM), out = .inl e1 → R = emW eI e1)) : Ev (2) 69 8 [some (.ref 1), some (.int l1), some (.int l2), some (.int l3), some (.int l4), none] [] M0 R := by
  unfold f_X7_letters_8 at h
  rcases o_bif h with ⟨hb5, h⟩ | ⟨hb5, h⟩
  · refine ev_goT kc_69 3 (t := 50) (e := 11) (L' := [some (.ref 1), some (.int l1), some (.int l2), some (.int l3), some (.int l4), none]) (st' := []) rfl hb5 ?_
    obtain ⟨r6, hr6, h⟩ := o_b1 h
    obtain rfl := Option.some.inj h
    exact Ev.forget (mLe.kp (mLe.sk (mLe.kp (mLe.kp (mLe.sk (mLe.sk mLe.nl)))))) (e_X7_letters_50  hr6 (hk.2 _ rfl))
  · refine ev_goF kc_69 3 (t := 50) (e := 11) (L' := [some (.ref 1), some (.int l1), some (.int l2), some (.int l3), some (.int l4), none]) (st' := []) rfl hb5 ?_
    refine ev_go kc_69 2 (i' := 13) (L' := [some (.ref 1), some (.int l1), some (.int l2), some (.int l3), some (.int l4), none]) (st' := [.int l4, .ref 1]) (M' := M0) rfl ?_
    obtain ⟨v7, hc7, h⟩ := o_b1 h
    refine ev_cl0 (ins := .invokevirtual 54) kc_69 rfl rfl (a := 63) (as := [.ref 1, .int l4]) (rest := []) rfl rfl (Cs.deep (c_X7_isLetter (M0 := M0) hc7) (by decide)) ?_
    rcases o_bif h with ⟨hb8, h⟩ | ⟨hb8, h⟩
    · refine ev_goF kc_69 1 (t := 50) (e := 15) (L' := [some (.ref 1), some (.int l1), some (.int l2), some (.int l3), some (.int l4), none]) (st' := []) rfl (mB_e0f hb8) ?_
      refine ev_go kc_69 2 (i' := 17) (L' := [some (.ref 1), some (.int l1), some (.int l2), some (.int l3), some (.int l4), none]) (st' := [.int l4, .ref 1]) (M' := M0) rfl ?_
      obtain ⟨v9, hc9, h⟩ := o_b1 h
      refine ev_cl0 (ins := .invokevirtual 29) kc_69 rfl rfl (a := 58) (as := [.ref 1, .int l4]) (rest := []) rfl rfl (Cs.deep (c_X7_byteAt (M0 := M0) hc9) (by decide)) ?_
      rcases o_bif h with ⟨hb10, h⟩ | ⟨hb10, h⟩
      · refine ev_goT kc_69 6 (t := 32) (e := 24) (L' := [some (.ref 1), some (.int l1), some (.int l2), some (.int l3), some (.int l4), some (.int (v9 - (97 : Int32)))]) (st' := []) rfl hb10 ?_
        obtain ⟨r11, hr11, h⟩ := o_b1 h
        obtain rfl := Option.some.inj h
        exact Ev.forget (mLe.kp (mLe.sk (mLe.sk (mLe.sk (mLe.sk (mLe.sk mLe.nl)))))) (e_X7_letters_32  hr11 (hk.2 _ rfl))
      · refine ev_goF kc_69 6 (t := 32) (e := 24) (L' := [some (.ref 1), some (.int l1), some (.int l2), some (.int l3), some (.int l4), some (.int (v9 - (97 : Int32)))]) (st' := []) rfl hb10 ?_
        refine ev_go kc_69 2 (i' := 26) (L' := [some (.ref 1), some (.int l1), some (.int l2), some (.int l3), some (.int l4), some (.int (v9 - (97 : Int32)))]) (st' := [.int (v9 - (97 : Int32)), .int l2]) (M' := M0) rfl ?_
        refine ev_cl0 (ins := .invokestatic 57) kc_69 rfl rfl (a := 178) (as := [.int l2, .int (v9 - (97 : Int32))]) (rest := []) rfl rfl (Cs.deep (c_X11_has (M0 := M0)) (by decide)) ?_
        rcases o_bif h with ⟨hb13, h⟩ | ⟨hb13, h⟩
        · refine ev_goT kc_69 1 (t := 32) (e := 28) (L' := [some (.ref 1), some (.int l1), some (.int l2), some (.int l3), some (.int l4), some (.int (v9 - (97 : Int32)))]) (st' := []) rfl (mB_n0t hb13) ?_
          obtain ⟨r14, hr14, h⟩ := o_b1 h
          obtain rfl := Option.some.inj h
          exact Ev.forget (mLe.kp (mLe.sk (mLe.sk (mLe.sk (mLe.sk (mLe.sk mLe.nl)))))) (e_X7_letters_32  hr14 (hk.2 _ rfl))
        · refine ev_goF kc_69 1 (t := 32) (e := 28) (L' := [some (.ref 1), some (.int l1), some (.int l2), some (.int l3), some (.int l4), some (.int (v9 - (97 : Int32)))]) (st' := []) rfl (mB_n0f hb13) ?_
          refine ev_go kc_69 2 (i' := 30) (L' := [some (.ref 1), some (.int l1), some (.int l2), some (.int l3), some (.int l4), some (.int (v9 - (97 : Int32)))]) (st' := [.int (v9 - (97 : Int32)), .int l1]) (M' := M0) rfl ?_
          refine ev_cl0 (ins := .invokestatic 57) kc_69 rfl rfl (a := 178) (as := [.int l1, .int (v9 - (97 : Int32))]) (rest := []) rfl rfl (Cs.deep (c_X11_has (M0 := M0)) (by decide)) ?_
          rcases o_bif h with ⟨hb16, h⟩ | ⟨hb16, h⟩
          · refine ev_goT kc_69 1 (t := 39) (e := 32) (L' := [some (.ref 1), some (.int l1), some (.int l2), some (.int l3), some (.int l4), some (.int (v9 - (97 : Int32)))]) (st' := []) rfl (mB_n0t hb16) ?_
            refine ev_go kc_69 2 (i' := 41) (L' := [some (.ref 1), some (.int l1), some (.int l2), some (.int l3), some (.int l4), some (.int (v9 - (97 : Int32)))]) (st' := [.int (v9 - (97 : Int32)), .int l2]) (M' := M0) rfl ?_
            refine ev_cl0 (ins := .invokestatic 61) kc_69 rfl rfl (a := 177) (as := [.int (v9 - (97 : Int32))]) (rest := [.int l2]) rfl rfl (Cs.deep (c_X11_bit (M0 := M0)) (by decide)) ?_
            refine ev_go kc_69 8 (i' := 8) (L' := [some (.ref 1), some (.int l1), some (.int (l2 ||| (f_X11_bit (v9 - (97 : Int32))))), some (.int (l4 + (1 : Int32))), some (.int (l4 + (1 : Int32))), some (.int (v9 - (97 : Int32)))]) (st' := []) (M' := M0) rfl ?_
            obtain rfl := Option.some.inj h
            exact Ev.forget (mLe.kp (mLe.kp (mLe.kp (mLe.kp (mLe.kp (mLe.sk mLe.nl)))))) (hk.1 ((l2 ||| (f_X11_bit (v9 - (97 : Int32)))), (l4 + (1 : Int32)), (l4 + (1 : Int32))) rfl)
          · refine ev_goF kc_69 1 (t := 39) (e := 32) (L' := [some (.ref 1), some (.int l1), some (.int l2), some (.int l3), some (.int l4), some (.int (v9 - (97 : Int32)))]) (st' := []) rfl (mB_n0f hb16) ?_
            obtain ⟨r18, hr18, h⟩ := o_b1 h
            obtain rfl := Option.some.inj h
            exact Ev.forget (mLe.kp (mLe.sk (mLe.sk (mLe.sk (mLe.sk (mLe.sk mLe.nl)))))) (e_X7_letters_32  hr18 (hk.2 _ rfl))
    · refine ev_goT kc_69 1 (t := 50) (e := 15) (L' := [some (.ref 1), some (.int l1), some (.int l2), some (.int l3), some (.int l4), none]) (st' := []) rfl (mB_e0t hb8) ?_
      obtain ⟨r19, hr19, h⟩ := o_b1 h
      obtain rfl := Option.some.inj h
      exact Ev.forget (mLe.kp (mLe.sk (mLe.kp (mLe.kp (mLe.sk (mLe.sk mLe.nl)))))) (e_X7_letters_50  hr19 (hk.2 _ rfl))
def f_X7_letters_l8 (l1 : Int32) (l2 : Int32) (l3 : Int32) (l4 : Int32) (M0 : mM) : Option (Int32 × mM) :=
  wh 100000 (fun s : Int32 × Int32 × Int32 => f_X7_letters_8 l1 s.1 s.2.1 s.2.2 M0) (l2, l3, l4)
theorem e_X7_letters_l8 {l1 : Int32} {l2 : Int32} {l3 : Int32} {l4 : Int32} {M0 : mM} {R : mZ} {out : (Int32 × mM)}  (h : f_X7_letters_l8 l1 l2 l3 l4 M0 = some out) (hk : R = emW eI out) : Ev (2) 69 8 [some (.ref 1), some (.int l1), some (.int l2), some (.int l3), some (.int l4), none] [] M0 R := by
  unfold f_X7_letters_l8 at h
  exact wh_ev (P := fun s : Int32 × Int32 × Int32 => Ev (2) 69 8 [some (.ref 1), some (.int l1), some (.int s.1), some (.int s.2.1), some (.int s.2.2), none] [] M0 R) (Q := fun e : (Int32 × mM) => R = emW eI e) (fun s o hb h1 h2 => e_X7_letters_8  hb ⟨h1, h2⟩) 100000 _ _ h hk
def f_X7_letters (p1 : Int32) (M0 : mM) : Option (Int32 × mM) :=
  f_X7_letters_l8 p1 (0 : Int32) (M0 1 2) (M0 1 2) M0
set_option maxRecDepth 8000 in
theorem c_X7_letters {p1 : Int32} {M0 : mM} {out : (Int32 × mM)} (h : f_X7_letters p1 M0 = some out) : Cs (2) 69 [.ref 1, .int p1] M0 (emW eI out) := by
  generalize hk : emW eI out = R
  replace hk := hk.symm
  unfold f_X7_letters at h
  show Ev (2) 69 0 [some (.ref 1), some (.int p1), none, none, none, none] [] M0 R
  refine ev_go kc_69 8 (i' := 8) (L' := [some (.ref 1), some (.int p1), some (.int (0 : Int32)), some (.int (M0 1 2)), some (.int (M0 1 2)), none]) (st' := []) (M' := M0) rfl ?_
  exact Ev.forget (mLe.kp (mLe.kp (mLe.kp (mLe.kp (mLe.kp (mLe.sk mLe.nl)))))) (e_X7_letters_l8  h hk)
/-- WakeTower$Touch.touched(LWakeTower$Tower;I)I: 70, R -/
theorem kc_70 : mKc 70 = k_X8_touched := rfl
def f_X8_touched_18 (o0 : Nat) (l1 : Int32) (l2 : Int32) (l3 : Int32) (M0 : mM) : Option (Int32 ⊕ (Int32 × Int32)) :=
  gd (mIn l3 8) (bif decide (((M0 (o0 + 6) (ix l3)) &&& l1) = 0) then (some (.inr (l2, (l3 + (1 : Int32))))) else (some (.inr ((l2 ||| (f_X11_bit l3)), (l3 + (1 : Int32))))))
set_option maxRecDepth 8000 in
theorem e_X8_touched_18 {o0 : Nat} {l1 : Int32} {l2 : Int32} {l3 : Int32} {M0 : mM} {R : mZ} {out : (Int32 ⊕ (Int32 × Int32))} (go0 : mTwB o0 = true) (h : f_X8_touched_18 o0 l1 l2 l3 M0 = some out) (hk : (∀ s' : Int32 × Int32, out = .inr s' → Ev (1) 70 4 [some (.ref o0), some (.int l1), some (.int s'.1), some (.int s'.2)] [] M0 R) ∧ (∀ e1 : Int32, out = .inl e1 → R = emR eI M0 e1)) : Ev (1) 70 18 [some (.ref o0), some (.int l1), some (.int l2), some (.int l3)] [] M0 R := by
  unfold f_X8_touched_18 at h
  refine ev_go kc_70 1 (i' := 19) (L' := [some (.ref o0), some (.int l1), some (.int l2), some (.int l3)]) (st' := [.ref o0]) (M' := M0) rfl ?_
  refine ev_gr kc_70 rfl (mTw0 go0) (j := 5) rfl ?_
  refine ev_go kc_70 1 (i' := 21) (L' := [some (.ref o0), some (.int l1), some (.int l2), some (.int l3)]) (st' := [.int l3, .ref (o0 + 6)]) (M' := M0) rfl ?_
  obtain ⟨hg1, h⟩ := o_gd h
  refine ev_ia kc_70 rfl (mTw6 go0) hg1 ?_
  rcases o_bif h with ⟨hb2, h⟩ | ⟨hb2, h⟩
  · refine ev_goT kc_70 3 (t := 30) (e := 25) (L' := [some (.ref o0), some (.int l1), some (.int l2), some (.int l3)]) (st' := []) rfl hb2 ?_
    refine ev_go kc_70 2 (i' := 4) (L' := [some (.ref o0), some (.int l1), some (.int l2), some (.int (l3 + (1 : Int32)))]) (st' := []) (M' := M0) rfl ?_
    obtain rfl := Option.some.inj h
    exact Ev.forget (mLe.kp (mLe.kp (mLe.kp (mLe.kp mLe.nl)))) (hk.1 (l2, (l3 + (1 : Int32))) rfl)
  · refine ev_goF kc_70 3 (t := 30) (e := 25) (L' := [some (.ref o0), some (.int l1), some (.int l2), some (.int l3)]) (st' := []) rfl hb2 ?_
    refine ev_go kc_70 2 (i' := 27) (L' := [some (.ref o0), some (.int l1), some (.int l2), some (.int l3)]) (st' := [.int l3, .int l2]) (M' := M0) rfl ?_
    refine ev_cl0 (ins := .invokestatic 19) kc_70 rfl rfl (a := 177) (as := [.int l3]) (rest := [.int l2]) rfl rfl (Cs.deep (c_X11_bit (M0 := M0)) (by decide)) ?_
    refine ev_go kc_70 4 (i' := 4) (L' := [some (.ref o0), some (.int l1), some (.int (l2 ||| (f_X11_bit l3))), some (.int (l3 + (1 : Int32)))]) (st' := []) (M' := M0) rfl ?_
    obtain rfl := Option.some.inj h
    exact Ev.forget (mLe.kp (mLe.kp (mLe.kp (mLe.kp mLe.nl)))) (hk.1 ((l2 ||| (f_X11_bit l3)), (l3 + (1 : Int32))) rfl)
def f_X8_touched_4 (o0 : Nat) (l1 : Int32) (l2 : Int32) (l3 : Int32) (M0 : mM) : Option (Int32 ⊕ (Int32 × Int32)) :=
  bif decide ((8 : Int32) ≤ l3) then (some (.inl l2)) else (bif (f_X11_has l1 l3) then (gd (mIn l3 8) (f_X8_touched_18 o0 l1 (l2 ||| (M0 (o0 + 6) (ix l3))) l3 M0)) else (f_X8_touched_18 o0 l1 l2 l3 M0))
set_option maxRecDepth 8000 in
theorem e_X8_touched_4 {o0 : Nat} {l1 : Int32} {l2 : Int32} {l3 : Int32} {M0 : mM} {R : mZ} {out : (Int32 ⊕ (Int32 × Int32))} (go0 : mTwB o0 = true) (h : f_X8_touched_4 o0 l1 l2 l3 M0 = some out) (hk : (∀ s' : Int32 × Int32, out = .inr s' → Ev (1) 70 4 [some (.ref o0), some (.int l1), some (.int s'.1), some (.int s'.2)] [] M0 R) ∧ (∀ e1 : Int32, out = .inl e1 → R = emR eI M0 e1)) : Ev (1) 70 4 [some (.ref o0), some (.int l1), some (.int l2), some (.int l3)] [] M0 R := by
  unfold f_X8_touched_4 at h
  rcases o_bif h with ⟨hb4, h⟩ | ⟨hb4, h⟩
  · refine ev_goT kc_70 3 (t := 32) (e := 7) (L' := [some (.ref o0), some (.int l1), some (.int l2), some (.int l3)]) (st' := []) rfl hb4 ?_
    refine ev_go kc_70 1 (i' := 33) (L' := [some (.ref o0), some (.int l1), some (.int l2), some (.int l3)]) (st' := [.int l2]) (M' := M0) rfl ?_
    obtain rfl := Option.some.inj h
    rw [show _ from (hk.2 _ rfl)]
    exact ev_ret kc_70 rfl rfl rfl
  · refine ev_goF kc_70 3 (t := 32) (e := 7) (L' := [some (.ref o0), some (.int l1), some (.int l2), some (.int l3)]) (st' := []) rfl hb4 ?_
    refine ev_go kc_70 2 (i' := 9) (L' := [some (.ref o0), some (.int l1), some (.int l2), some (.int l3)]) (st' := [.int l3, .int l1]) (M' := M0) rfl ?_
    refine ev_cl0 (ins := .invokestatic 9) kc_70 rfl rfl (a := 178) (as := [.int l1, .int l3]) (rest := []) rfl rfl (Cs.deep (c_X11_has (M0 := M0)) (by decide)) ?_
    rcases o_bif h with ⟨hb6, h⟩ | ⟨hb6, h⟩
    · refine ev_goF kc_70 1 (t := 18) (e := 11) (L' := [some (.ref o0), some (.int l1), some (.int l2), some (.int l3)]) (st' := []) rfl (mB_e0f hb6) ?_
      refine ev_go kc_70 2 (i' := 13) (L' := [some (.ref o0), some (.int l1), some (.int l2), some (.int l3)]) (st' := [.ref o0, .int l2]) (M' := M0) rfl ?_
      refine ev_gr kc_70 rfl (mTw0 go0) (j := 5) rfl ?_
      refine ev_go kc_70 1 (i' := 15) (L' := [some (.ref o0), some (.int l1), some (.int l2), some (.int l3)]) (st' := [.int l3, .ref (o0 + 6), .int l2]) (M' := M0) rfl ?_
      obtain ⟨hg7, h⟩ := o_gd h
      refine ev_ia kc_70 rfl (mTw6 go0) hg7 ?_
      refine ev_go kc_70 2 (i' := 18) (L' := [some (.ref o0), some (.int l1), some (.int (l2 ||| (M0 (o0 + 6) (ix l3)))), some (.int l3)]) (st' := []) (M' := M0) rfl ?_
      exact Ev.forget (mLe.kp (mLe.kp (mLe.kp (mLe.kp mLe.nl)))) (e_X8_touched_18 go0 h hk)
    · refine ev_goT kc_70 1 (t := 18) (e := 11) (L' := [some (.ref o0), some (.int l1), some (.int l2), some (.int l3)]) (st' := []) rfl (mB_e0t hb6) ?_
      exact Ev.forget (mLe.kp (mLe.kp (mLe.kp (mLe.kp mLe.nl)))) (e_X8_touched_18 go0 h hk)
def f_X8_touched_l4 (o0 : Nat) (l1 : Int32) (l2 : Int32) (l3 : Int32) (M0 : mM) : Option Int32 :=
  wh 100000 (fun s : Int32 × Int32 => f_X8_touched_4 o0 l1 s.1 s.2 M0) (l2, l3)
theorem e_X8_touched_l4 {o0 : Nat} {l1 : Int32} {l2 : Int32} {l3 : Int32} {M0 : mM} {R : mZ} {out : Int32} (go0 : mTwB o0 = true) (h : f_X8_touched_l4 o0 l1 l2 l3 M0 = some out) (hk : R = emR eI M0 out) : Ev (1) 70 4 [some (.ref o0), some (.int l1), some (.int l2), some (.int l3)] [] M0 R := by
  unfold f_X8_touched_l4 at h
  exact wh_ev (P := fun s : Int32 × Int32 => Ev (1) 70 4 [some (.ref o0), some (.int l1), some (.int s.1), some (.int s.2)] [] M0 R) (Q := fun e : Int32 => R = emR eI M0 e) (fun s o hb h1 h2 => e_X8_touched_4 go0 hb ⟨h1, h2⟩) 100000 _ _ h hk
def f_X8_touched (o0 : Nat) (p1 : Int32) (M0 : mM) : Option Int32 :=
  gd (mTwB o0) (f_X8_touched_l4 o0 p1 (0 : Int32) (0 : Int32) M0)
set_option maxRecDepth 8000 in
theorem c_X8_touched {o0 : Nat} {p1 : Int32} {M0 : mM} {out : Int32} (h : f_X8_touched o0 p1 M0 = some out) : Cs (1) 70 [.ref o0, .int p1] M0 (emR eI M0 out) := by
  generalize hk : emR eI M0 out = R
  replace hk := hk.symm
  unfold f_X8_touched at h
  obtain ⟨go0, h⟩ := o_gd h
  show Ev (1) 70 0 [some (.ref o0), some (.int p1), none, none] [] M0 R
  refine ev_go kc_70 4 (i' := 4) (L' := [some (.ref o0), some (.int p1), some (.int (0 : Int32)), some (.int (0 : Int32))]) (st' := []) (M' := M0) rfl ?_
  exact Ev.forget (mLe.kp (mLe.kp (mLe.kp (mLe.kp mLe.nl)))) (e_X8_touched_l4 go0 h hk)
/-- WakeTower$Touch.steps(LWakeTower$Tower;II)I: 71, R -/
theorem kc_71 : mKc 71 = k_X8_steps := rfl
def f_X8_steps_21 (o0 : Nat) (l2 : Int32) (l3 : Int32) (l4 : Int32) (l5 : Int32) (M0 : mM) : Option (Int32 ⊕ (Int32 × Int32)) :=
  b1 (f_X8_touched o0 l4 M0) (fun v1 => some (.inr ((l4 ||| (v1 &&& l3)), (l5 + (1 : Int32)))))
set_option maxRecDepth 8000 in
theorem e_X8_steps_21 {o0 : Nat} {l2 : Int32} {l3 : Int32} {l4 : Int32} {l5 : Int32} {M0 : mM} {R : mZ} {out : (Int32 ⊕ (Int32 × Int32))} (go0 : mTwB o0 = true) (h : f_X8_steps_21 o0 l2 l3 l4 l5 M0 = some out) (hk : (∀ s' : Int32 × Int32, out = .inr s' → Ev (2) 71 10 [some (.ref o0), none, some (.int l2), some (.int l3), some (.int s'.1), some (.int s'.2)] [] M0 R) ∧ (∀ e1 : Int32, out = .inl e1 → R = emR eI M0 e1)) : Ev (2) 71 21 [some (.ref o0), none, some (.int l2), some (.int l3), some (.int l4), some (.int l5)] [] M0 R := by
  unfold f_X8_steps_21 at h
  refine ev_go kc_71 3 (i' := 24) (L' := [some (.ref o0), none, some (.int l2), some (.int l3), some (.int l4), some (.int l5)]) (st' := [.int l4, .ref o0, .int l4]) (M' := M0) rfl ?_
  obtain ⟨v1, hc1, h⟩ := o_b1 h
  refine ev_cl0 (ins := .invokestatic 30) kc_71 rfl rfl (a := 70) (as := [.ref o0, .int l4]) (rest := [.int l4]) rfl rfl (Cs.deep (c_X8_touched (M0 := M0) hc1) (by decide)) ?_
  refine ev_go kc_71 6 (i' := 10) (L' := [some (.ref o0), none, some (.int l2), some (.int l3), some (.int (l4 ||| (v1 &&& l3))), some (.int (l5 + (1 : Int32)))]) (st' := []) (M' := M0) rfl ?_
  obtain rfl := Option.some.inj h
  exact Ev.forget (mLe.kp (mLe.sk (mLe.kp (mLe.kp (mLe.kp (mLe.kp mLe.nl)))))) (hk.1 ((l4 ||| (v1 &&& l3)), (l5 + (1 : Int32))) rfl)
def f_X8_steps_10 (o0 : Nat) (l2 : Int32) (l3 : Int32) (l4 : Int32) (l5 : Int32) (M0 : mM) : Option (Int32 ⊕ (Int32 × Int32)) :=
  bif decide ((8 : Int32) ≤ l5) then (some (.inl (-1 : Int32))) else (bif decide (l4 = 0) then (f_X8_steps_21 o0 l2 l3 l4 l5 M0) else (bif (f_X11_within l2 l4) then (some (.inl l5)) else (f_X8_steps_21 o0 l2 l3 l4 l5 M0)))
set_option maxRecDepth 8000 in
theorem e_X8_steps_10 {o0 : Nat} {l2 : Int32} {l3 : Int32} {l4 : Int32} {l5 : Int32} {M0 : mM} {R : mZ} {out : (Int32 ⊕ (Int32 × Int32))} (go0 : mTwB o0 = true) (h : f_X8_steps_10 o0 l2 l3 l4 l5 M0 = some out) (hk : (∀ s' : Int32 × Int32, out = .inr s' → Ev (2) 71 10 [some (.ref o0), none, some (.int l2), some (.int l3), some (.int s'.1), some (.int s'.2)] [] M0 R) ∧ (∀ e1 : Int32, out = .inl e1 → R = emR eI M0 e1)) : Ev (2) 71 10 [some (.ref o0), none, some (.int l2), some (.int l3), some (.int l4), some (.int l5)] [] M0 R := by
  unfold f_X8_steps_10 at h
  rcases o_bif h with ⟨hb2, h⟩ | ⟨hb2, h⟩
  · refine ev_goT kc_71 3 (t := 31) (e := 13) (L' := [some (.ref o0), none, some (.int l2), some (.int l3), some (.int l4), some (.int l5)]) (st' := []) rfl hb2 ?_
    refine ev_go kc_71 1 (i' := 32) (L' := [some (.ref o0), none, some (.int l2), some (.int l3), some (.int l4), some (.int l5)]) (st' := [.int (-1 : Int32)]) (M' := M0) rfl ?_
    obtain rfl := Option.some.inj h
    rw [show _ from (hk.2 _ rfl)]
    exact ev_ret kc_71 rfl rfl rfl
  · refine ev_goF kc_71 3 (t := 31) (e := 13) (L' := [some (.ref o0), none, some (.int l2), some (.int l3), some (.int l4), some (.int l5)]) (st' := []) rfl hb2 ?_
    rcases o_bif h with ⟨hb3, h⟩ | ⟨hb3, h⟩
    · refine ev_goT kc_71 2 (t := 21) (e := 15) (L' := [some (.ref o0), none, some (.int l2), some (.int l3), some (.int l4), some (.int l5)]) (st' := []) rfl hb3 ?_
      exact Ev.forget (mLe.kp (mLe.sk (mLe.kp (mLe.kp (mLe.kp (mLe.kp mLe.nl)))))) (e_X8_steps_21 go0 h hk)
    · refine ev_goF kc_71 2 (t := 21) (e := 15) (L' := [some (.ref o0), none, some (.int l2), some (.int l3), some (.int l4), some (.int l5)]) (st' := []) rfl hb3 ?_
      refine ev_go kc_71 2 (i' := 17) (L' := [some (.ref o0), none, some (.int l2), some (.int l3), some (.int l4), some (.int l5)]) (st' := [.int l4, .int l2]) (M' := M0) rfl ?_
      refine ev_cl0 (ins := .invokestatic 27) kc_71 rfl rfl (a := 179) (as := [.int l2, .int l4]) (rest := []) rfl rfl (Cs.deep (c_X11_within (M0 := M0)) (by decide)) ?_
      rcases o_bif h with ⟨hb5, h⟩ | ⟨hb5, h⟩
      · refine ev_goF kc_71 1 (t := 21) (e := 19) (L' := [some (.ref o0), none, some (.int l2), some (.int l3), some (.int l4), some (.int l5)]) (st' := []) rfl (mB_e0f hb5) ?_
        refine ev_go kc_71 1 (i' := 20) (L' := [some (.ref o0), none, some (.int l2), some (.int l3), some (.int l4), some (.int l5)]) (st' := [.int l5]) (M' := M0) rfl ?_
        obtain rfl := Option.some.inj h
        rw [show _ from (hk.2 _ rfl)]
        exact ev_ret kc_71 rfl rfl rfl
      · refine ev_goT kc_71 1 (t := 21) (e := 19) (L' := [some (.ref o0), none, some (.int l2), some (.int l3), some (.int l4), some (.int l5)]) (st' := []) rfl (mB_e0t hb5) ?_
        exact Ev.forget (mLe.kp (mLe.sk (mLe.kp (mLe.kp (mLe.kp (mLe.kp mLe.nl)))))) (e_X8_steps_21 go0 h hk)
def f_X8_steps_l10 (o0 : Nat) (l2 : Int32) (l3 : Int32) (l4 : Int32) (l5 : Int32) (M0 : mM) : Option Int32 :=
  wh 100000 (fun s : Int32 × Int32 => f_X8_steps_10 o0 l2 l3 s.1 s.2 M0) (l4, l5)
theorem e_X8_steps_l10 {o0 : Nat} {l2 : Int32} {l3 : Int32} {l4 : Int32} {l5 : Int32} {M0 : mM} {R : mZ} {out : Int32} (go0 : mTwB o0 = true) (h : f_X8_steps_l10 o0 l2 l3 l4 l5 M0 = some out) (hk : R = emR eI M0 out) : Ev (2) 71 10 [some (.ref o0), none, some (.int l2), some (.int l3), some (.int l4), some (.int l5)] [] M0 R := by
  unfold f_X8_steps_l10 at h
  exact wh_ev (P := fun s : Int32 × Int32 => Ev (2) 71 10 [some (.ref o0), none, some (.int l2), some (.int l3), some (.int s.1), some (.int s.2)] [] M0 R) (Q := fun e : Int32 => R = emR eI M0 e) (fun s o hb h1 h2 => e_X8_steps_10 go0 hb ⟨h1, h2⟩) 100000 _ _ h hk
def f_X8_steps (o0 : Nat) (p1 : Int32) (p2 : Int32) (M0 : mM) : Option Int32 :=
  gd (mTwB o0) (b1 (f_X9_holders o0 M0) (fun v6 => f_X8_steps_l10 o0 p2 v6 ((f_X11_bit p1) &&& v6) (0 : Int32) M0))
set_option maxRecDepth 8000 in
theorem c_X8_steps {o0 : Nat} {p1 : Int32} {p2 : Int32} {M0 : mM} {out : Int32} (h : f_X8_steps o0 p1 p2 M0 = some out) : Cs (2) 71 [.ref o0, .int p1, .int p2] M0 (emR eI M0 out) := by
  generalize hk : emR eI M0 out = R
  replace hk := hk.symm
  unfold f_X8_steps at h
  obtain ⟨go0, h⟩ := o_gd h
  show Ev (2) 71 0 [some (.ref o0), some (.int p1), some (.int p2), none, none, none] [] M0 R
  refine ev_go kc_71 1 (i' := 1) (L' := [some (.ref o0), some (.int p1), some (.int p2), none, none, none]) (st' := [.ref o0]) (M' := M0) rfl ?_
  obtain ⟨v6, hc6, h⟩ := o_b1 h
  refine ev_cl0 (ins := .invokevirtual 23) kc_71 rfl rfl (a := 76) (as := [.ref o0]) (rest := []) rfl (m_rec (mTw0 go0)) (Cs.deep (c_X9_holders (M0 := M0) hc6) (by decide)) ?_
  refine ev_go kc_71 2 (i' := 4) (L' := [some (.ref o0), some (.int p1), some (.int p2), some (.int v6), none, none]) (st' := [.int p1]) (M' := M0) rfl ?_
  refine ev_cl0 (ins := .invokestatic 19) kc_71 rfl rfl (a := 177) (as := [.int p1]) (rest := []) rfl rfl (Cs.deep (c_X11_bit (M0 := M0)) (by decide)) ?_
  refine ev_go kc_71 5 (i' := 10) (L' := [some (.ref o0), some (.int p1), some (.int p2), some (.int v6), some (.int ((f_X11_bit p1) &&& v6)), some (.int (0 : Int32))]) (st' := []) (M' := M0) rfl ?_
  exact Ev.forget (mLe.kp (mLe.sk (mLe.kp (mLe.kp (mLe.kp (mLe.kp mLe.nl)))))) (e_X8_steps_l10 go0 h hk)
/-- WakeTower$Touch.reached(LWakeTower$Tower;II)I: 72, R -/
theorem kc_72 : mKc 72 = k_X8_reached := rfl
def f_X8_reached_7 (o0 : Nat) (l2 : Int32) (l3 : Int32) (l4 : Int32) (M0 : mM) : Option (Int32 ⊕ (Int32 × Int32)) :=
  bif decide ((8 : Int32) ≤ l4) then (some (.inl l3)) else (b1 (f_X8_touched o0 l3 M0) (fun v2 => some (.inr ((l3 ||| (v2 &&& l2)), (l4 + (1 : Int32))))))
set_option maxRecDepth 8000 in
theorem e_X8_reached_7 {o0 : Nat} {l2 : Int32} {l3 : Int32} {l4 : Int32} {M0 : mM} {R : mZ} {out : (Int32 ⊕ (Int32 × Int32))} (go0 : mTwB o0 = true) (h : f_X8_reached_7 o0 l2 l3 l4 M0 = some out) (hk : (∀ s' : Int32 × Int32, out = .inr s' → Ev (2) 72 7 [some (.ref o0), none, some (.int l2), some (.int s'.1), some (.int s'.2)] [] M0 R) ∧ (∀ e1 : Int32, out = .inl e1 → R = emR eI M0 e1)) : Ev (2) 72 7 [some (.ref o0), none, some (.int l2), some (.int l3), some (.int l4)] [] M0 R := by
  unfold f_X8_reached_7 at h
  rcases o_bif h with ⟨hb1, h⟩ | ⟨hb1, h⟩
  · refine ev_goT kc_72 3 (t := 20) (e := 10) (L' := [some (.ref o0), none, some (.int l2), some (.int l3), some (.int l4)]) (st' := []) rfl hb1 ?_
    refine ev_go kc_72 1 (i' := 21) (L' := [some (.ref o0), none, some (.int l2), some (.int l3), some (.int l4)]) (st' := [.int l3]) (M' := M0) rfl ?_
    obtain rfl := Option.some.inj h
    rw [show _ from (hk.2 _ rfl)]
    exact ev_ret kc_72 rfl rfl rfl
  · refine ev_goF kc_72 3 (t := 20) (e := 10) (L' := [some (.ref o0), none, some (.int l2), some (.int l3), some (.int l4)]) (st' := []) rfl hb1 ?_
    refine ev_go kc_72 3 (i' := 13) (L' := [some (.ref o0), none, some (.int l2), some (.int l3), some (.int l4)]) (st' := [.int l3, .ref o0, .int l3]) (M' := M0) rfl ?_
    obtain ⟨v2, hc2, h⟩ := o_b1 h
    refine ev_cl0 (ins := .invokestatic 30) kc_72 rfl rfl (a := 70) (as := [.ref o0, .int l3]) (rest := [.int l3]) rfl rfl (Cs.deep (c_X8_touched (M0 := M0) hc2) (by decide)) ?_
    refine ev_go kc_72 6 (i' := 7) (L' := [some (.ref o0), none, some (.int l2), some (.int (l3 ||| (v2 &&& l2))), some (.int (l4 + (1 : Int32)))]) (st' := []) (M' := M0) rfl ?_
    obtain rfl := Option.some.inj h
    exact Ev.forget (mLe.kp (mLe.sk (mLe.kp (mLe.kp (mLe.kp mLe.nl))))) (hk.1 ((l3 ||| (v2 &&& l2)), (l4 + (1 : Int32))) rfl)
def f_X8_reached_l7 (o0 : Nat) (l2 : Int32) (l3 : Int32) (l4 : Int32) (M0 : mM) : Option Int32 :=
  wh 100000 (fun s : Int32 × Int32 => f_X8_reached_7 o0 l2 s.1 s.2 M0) (l3, l4)
theorem e_X8_reached_l7 {o0 : Nat} {l2 : Int32} {l3 : Int32} {l4 : Int32} {M0 : mM} {R : mZ} {out : Int32} (go0 : mTwB o0 = true) (h : f_X8_reached_l7 o0 l2 l3 l4 M0 = some out) (hk : R = emR eI M0 out) : Ev (2) 72 7 [some (.ref o0), none, some (.int l2), some (.int l3), some (.int l4)] [] M0 R := by
  unfold f_X8_reached_l7 at h
  exact wh_ev (P := fun s : Int32 × Int32 => Ev (2) 72 7 [some (.ref o0), none, some (.int l2), some (.int s.1), some (.int s.2)] [] M0 R) (Q := fun e : Int32 => R = emR eI M0 e) (fun s o hb h1 h2 => e_X8_reached_7 go0 hb ⟨h1, h2⟩) 100000 _ _ h hk
def f_X8_reached (o0 : Nat) (p1 : Int32) (p2 : Int32) (M0 : mM) : Option Int32 :=
  gd (mTwB o0) (f_X8_reached_l7 o0 p2 ((f_X11_bit p1) &&& p2) (0 : Int32) M0)
set_option maxRecDepth 8000 in
theorem c_X8_reached {o0 : Nat} {p1 : Int32} {p2 : Int32} {M0 : mM} {out : Int32} (h : f_X8_reached o0 p1 p2 M0 = some out) : Cs (2) 72 [.ref o0, .int p1, .int p2] M0 (emR eI M0 out) := by
  generalize hk : emR eI M0 out = R
  replace hk := hk.symm
  unfold f_X8_reached at h
  obtain ⟨go0, h⟩ := o_gd h
  show Ev (2) 72 0 [some (.ref o0), some (.int p1), some (.int p2), none, none] [] M0 R
  refine ev_go kc_72 1 (i' := 1) (L' := [some (.ref o0), some (.int p1), some (.int p2), none, none]) (st' := [.int p1]) (M' := M0) rfl ?_
  refine ev_cl0 (ins := .invokestatic 19) kc_72 rfl rfl (a := 177) (as := [.int p1]) (rest := []) rfl rfl (Cs.deep (c_X11_bit (M0 := M0)) (by decide)) ?_
  refine ev_go kc_72 5 (i' := 7) (L' := [some (.ref o0), some (.int p1), some (.int p2), some (.int ((f_X11_bit p1) &&& p2)), some (.int (0 : Int32))]) (st' := []) (M' := M0) rfl ?_
  exact Ev.forget (mLe.kp (mLe.sk (mLe.kp (mLe.kp (mLe.kp mLe.nl))))) (e_X8_reached_l7 go0 h hk)
/-- WakeTower$Tower.isPerson(I)Z: 74, R -/
theorem kc_74 : mKc 74 = k_X9_isPerson := rfl
def f_X9_isPerson (o0 : Nat) (p1 : Int32) (M0 : mM) : Option Bool :=
  gd (mTwB o0) (bif decide (p1 < 0) then (some false) else (bif decide ((8 : Int32) ≤ p1) then (some false) else (bif decide ((M0 o0 0) ≤ p1) then (some false) else (some true))))
set_option maxRecDepth 8000 in
theorem c_X9_isPerson {o0 : Nat} {p1 : Int32} {M0 : mM} {out : Bool} (h : f_X9_isPerson o0 p1 M0 = some out) : Cs (0) 74 [.ref o0, .int p1] M0 (emR eB M0 out) := by
  generalize hk : emR eB M0 out = R
  replace hk := hk.symm
  unfold f_X9_isPerson at h
  obtain ⟨go0, h⟩ := o_gd h
  show Ev (0) 74 0 [some (.ref o0), some (.int p1)] [] M0 R
  rcases o_bif h with ⟨hb1, h⟩ | ⟨hb1, h⟩
  · refine ev_goT kc_74 2 (t := 11) (e := 2) (L' := [some (.ref o0), some (.int p1)]) (st' := []) rfl hb1 ?_
    refine ev_go kc_74 1 (i' := 12) (L' := [some (.ref o0), some (.int p1)]) (st' := [.int (0 : Int32)]) (M' := M0) rfl ?_
    obtain rfl := Option.some.inj h
    rw [hk]
    exact ev_ret kc_74 rfl rfl rfl
  · refine ev_goF kc_74 2 (t := 11) (e := 2) (L' := [some (.ref o0), some (.int p1)]) (st' := []) rfl hb1 ?_
    rcases o_bif h with ⟨hb2, h⟩ | ⟨hb2, h⟩
    · refine ev_goT kc_74 3 (t := 11) (e := 5) (L' := [some (.ref o0), some (.int p1)]) (st' := []) rfl hb2 ?_
      refine ev_go kc_74 1 (i' := 12) (L' := [some (.ref o0), some (.int p1)]) (st' := [.int (0 : Int32)]) (M' := M0) rfl ?_
      obtain rfl := Option.some.inj h
      rw [hk]
      exact ev_ret kc_74 rfl rfl rfl
    · refine ev_goF kc_74 3 (t := 11) (e := 5) (L' := [some (.ref o0), some (.int p1)]) (st' := []) rfl hb2 ?_
      refine ev_go kc_74 2 (i' := 7) (L' := [some (.ref o0), some (.int p1)]) (st' := [.ref o0, .int p1]) (M' := M0) rfl ?_
      refine ev_gf kc_74 rfl (mTw0 go0) rfl ?_
      rcases o_bif h with ⟨hb3, h⟩ | ⟨hb3, h⟩
      · refine ev_goT kc_74 1 (t := 11) (e := 9) (L' := [some (.ref o0), some (.int p1)]) (st' := []) rfl hb3 ?_
        refine ev_go kc_74 1 (i' := 12) (L' := [some (.ref o0), some (.int p1)]) (st' := [.int (0 : Int32)]) (M' := M0) rfl ?_
        obtain rfl := Option.some.inj h
        rw [hk]
        exact ev_ret kc_74 rfl rfl rfl
      · refine ev_goF kc_74 1 (t := 11) (e := 9) (L' := [some (.ref o0), some (.int p1)]) (st' := []) rfl hb3 ?_
        refine ev_go kc_74 2 (i' := 12) (L' := [some (.ref o0), some (.int p1)]) (st' := [.int (1 : Int32)]) (M' := M0) rfl ?_
        obtain rfl := Option.some.inj h
        rw [hk]
        exact ev_ret kc_74 rfl rfl rfl
/-- WakeTower$Tower.everyone()I: 75, R -/
theorem kc_75 : mKc 75 = k_X9_everyone := rfl
def f_X9_everyone (o0 : Nat) (M0 : mM) : Option Int32 :=
  gd (mTwB o0) (some ((f_X11_bit (M0 o0 0)) - (1 : Int32)))
set_option maxRecDepth 8000 in
theorem c_X9_everyone {o0 : Nat} {M0 : mM} {out : Int32} (h : f_X9_everyone o0 M0 = some out) : Cs (1) 75 [.ref o0] M0 (emR eI M0 out) := by
  generalize hk : emR eI M0 out = R
  replace hk := hk.symm
  unfold f_X9_everyone at h
  obtain ⟨go0, h⟩ := o_gd h
  show Ev (1) 75 0 [some (.ref o0)] [] M0 R
  refine ev_go kc_75 1 (i' := 1) (L' := [some (.ref o0)]) (st' := [.ref o0]) (M' := M0) rfl ?_
  refine ev_gf kc_75 rfl (mTw0 go0) rfl ?_
  refine ev_cl0 (ins := .invokestatic 87) kc_75 rfl rfl (a := 177) (as := [.int (M0 o0 0)]) (rest := []) rfl rfl (Cs.deep (c_X11_bit (M0 := M0)) (by decide)) ?_
  refine ev_go kc_75 2 (i' := 5) (L' := [some (.ref o0)]) (st' := [.int ((f_X11_bit (M0 o0 0)) - (1 : Int32))]) (M' := M0) rfl ?_
  obtain rfl := Option.some.inj h
  rw [hk]
  exact ev_ret kc_75 rfl rfl rfl
/-- WakeTower$Tower.inRing(I)I: 77, R -/
theorem kc_77 : mKc 77 = k_X9_inRing := rfl
def f_X9_inRing_4 (o0 : Nat) (l1 : Int32) (l2 : Int32) (l3 : Int32) (M0 : mM) : Option (Int32 ⊕ (Int32 × Int32)) :=
  bif decide ((8 : Int32) ≤ l3) then (some (.inl l2)) else (bif (f_X11_has (M0 o0 1) l3) then (gd (mIn l3 8) (bif decide (¬ (M0 (o0 + 5) (ix l3)) = l1) then (some (.inr (l2, (l3 + (1 : Int32))))) else (some (.inr ((l2 ||| (f_X11_bit l3)), (l3 + (1 : Int32))))))) else (some (.inr (l2, (l3 + (1 : Int32))))))
set_option maxRecDepth 8000 in
theorem e_X9_inRing_4 {o0 : Nat} {l1 : Int32} {l2 : Int32} {l3 : Int32} {M0 : mM} {R : mZ} {out : (Int32 ⊕ (Int32 × Int32))} (go0 : mTwB o0 = true) (h : f_X9_inRing_4 o0 l1 l2 l3 M0 = some out) (hk : (∀ s' : Int32 × Int32, out = .inr s' → Ev (1) 77 4 [some (.ref o0), some (.int l1), some (.int s'.1), some (.int s'.2)] [] M0 R) ∧ (∀ e1 : Int32, out = .inl e1 → R = emR eI M0 e1)) : Ev (1) 77 4 [some (.ref o0), some (.int l1), some (.int l2), some (.int l3)] [] M0 R := by
  unfold f_X9_inRing_4 at h
  rcases o_bif h with ⟨hb1, h⟩ | ⟨hb1, h⟩
  · refine ev_goT kc_77 3 (t := 25) (e := 7) (L' := [some (.ref o0), some (.int l1), some (.int l2), some (.int l3)]) (st' := []) rfl hb1 ?_
    refine ev_go kc_77 1 (i' := 26) (L' := [some (.ref o0), some (.int l1), some (.int l2), some (.int l3)]) (st' := [.int l2]) (M' := M0) rfl ?_
    obtain rfl := Option.some.inj h
    rw [show _ from (hk.2 _ rfl)]
    exact ev_ret kc_77 rfl rfl rfl
  · refine ev_goF kc_77 3 (t := 25) (e := 7) (L' := [some (.ref o0), some (.int l1), some (.int l2), some (.int l3)]) (st' := []) rfl hb1 ?_
    refine ev_go kc_77 1 (i' := 8) (L' := [some (.ref o0), some (.int l1), some (.int l2), some (.int l3)]) (st' := [.ref o0]) (M' := M0) rfl ?_
    refine ev_gf kc_77 rfl (mTw0 go0) rfl ?_
    refine ev_go kc_77 1 (i' := 10) (L' := [some (.ref o0), some (.int l1), some (.int l2), some (.int l3)]) (st' := [.int l3, .int (M0 o0 1)]) (M' := M0) rfl ?_
    refine ev_cl0 (ins := .invokestatic 91) kc_77 rfl rfl (a := 178) (as := [.int (M0 o0 1), .int l3]) (rest := []) rfl rfl (Cs.deep (c_X11_has (M0 := M0)) (by decide)) ?_
    rcases o_bif h with ⟨hb3, h⟩ | ⟨hb3, h⟩
    · refine ev_goF kc_77 1 (t := 23) (e := 12) (L' := [some (.ref o0), some (.int l1), some (.int l2), some (.int l3)]) (st' := []) rfl (mB_e0f hb3) ?_
      refine ev_go kc_77 1 (i' := 13) (L' := [some (.ref o0), some (.int l1), some (.int l2), some (.int l3)]) (st' := [.ref o0]) (M' := M0) rfl ?_
      refine ev_gr kc_77 rfl (mTw0 go0) (j := 4) rfl ?_
      refine ev_go kc_77 1 (i' := 15) (L' := [some (.ref o0), some (.int l1), some (.int l2), some (.int l3)]) (st' := [.int l3, .ref (o0 + 5)]) (M' := M0) rfl ?_
      obtain ⟨hg4, h⟩ := o_gd h
      refine ev_ia kc_77 rfl (mTw5 go0) hg4 ?_
      rcases o_bif h with ⟨hb5, h⟩ | ⟨hb5, h⟩
      · refine ev_goT kc_77 2 (t := 23) (e := 18) (L' := [some (.ref o0), some (.int l1), some (.int l2), some (.int l3)]) (st' := []) rfl hb5 ?_
        refine ev_go kc_77 2 (i' := 4) (L' := [some (.ref o0), some (.int l1), some (.int l2), some (.int (l3 + (1 : Int32)))]) (st' := []) (M' := M0) rfl ?_
        obtain rfl := Option.some.inj h
        exact Ev.forget (mLe.kp (mLe.kp (mLe.kp (mLe.kp mLe.nl)))) (hk.1 (l2, (l3 + (1 : Int32))) rfl)
      · refine ev_goF kc_77 2 (t := 23) (e := 18) (L' := [some (.ref o0), some (.int l1), some (.int l2), some (.int l3)]) (st' := []) rfl hb5 ?_
        refine ev_go kc_77 2 (i' := 20) (L' := [some (.ref o0), some (.int l1), some (.int l2), some (.int l3)]) (st' := [.int l3, .int l2]) (M' := M0) rfl ?_
        refine ev_cl0 (ins := .invokestatic 87) kc_77 rfl rfl (a := 177) (as := [.int l3]) (rest := [.int l2]) rfl rfl (Cs.deep (c_X11_bit (M0 := M0)) (by decide)) ?_
        refine ev_go kc_77 4 (i' := 4) (L' := [some (.ref o0), some (.int l1), some (.int (l2 ||| (f_X11_bit l3))), some (.int (l3 + (1 : Int32)))]) (st' := []) (M' := M0) rfl ?_
        obtain rfl := Option.some.inj h
        exact Ev.forget (mLe.kp (mLe.kp (mLe.kp (mLe.kp mLe.nl)))) (hk.1 ((l2 ||| (f_X11_bit l3)), (l3 + (1 : Int32))) rfl)
    · refine ev_goT kc_77 1 (t := 23) (e := 12) (L' := [some (.ref o0), some (.int l1), some (.int l2), some (.int l3)]) (st' := []) rfl (mB_e0t hb3) ?_
      refine ev_go kc_77 2 (i' := 4) (L' := [some (.ref o0), some (.int l1), some (.int l2), some (.int (l3 + (1 : Int32)))]) (st' := []) (M' := M0) rfl ?_
      obtain rfl := Option.some.inj h
      exact Ev.forget (mLe.kp (mLe.kp (mLe.kp (mLe.kp mLe.nl)))) (hk.1 (l2, (l3 + (1 : Int32))) rfl)
def f_X9_inRing_l4 (o0 : Nat) (l1 : Int32) (l2 : Int32) (l3 : Int32) (M0 : mM) : Option Int32 :=
  wh 100000 (fun s : Int32 × Int32 => f_X9_inRing_4 o0 l1 s.1 s.2 M0) (l2, l3)
theorem e_X9_inRing_l4 {o0 : Nat} {l1 : Int32} {l2 : Int32} {l3 : Int32} {M0 : mM} {R : mZ} {out : Int32} (go0 : mTwB o0 = true) (h : f_X9_inRing_l4 o0 l1 l2 l3 M0 = some out) (hk : R = emR eI M0 out) : Ev (1) 77 4 [some (.ref o0), some (.int l1), some (.int l2), some (.int l3)] [] M0 R := by
  unfold f_X9_inRing_l4 at h
  exact wh_ev (P := fun s : Int32 × Int32 => Ev (1) 77 4 [some (.ref o0), some (.int l1), some (.int s.1), some (.int s.2)] [] M0 R) (Q := fun e : Int32 => R = emR eI M0 e) (fun s o hb h1 h2 => e_X9_inRing_4 go0 hb ⟨h1, h2⟩) 100000 _ _ h hk
def f_X9_inRing (o0 : Nat) (p1 : Int32) (M0 : mM) : Option Int32 :=
  gd (mTwB o0) (f_X9_inRing_l4 o0 p1 (0 : Int32) (0 : Int32) M0)
set_option maxRecDepth 8000 in
theorem c_X9_inRing {o0 : Nat} {p1 : Int32} {M0 : mM} {out : Int32} (h : f_X9_inRing o0 p1 M0 = some out) : Cs (1) 77 [.ref o0, .int p1] M0 (emR eI M0 out) := by
  generalize hk : emR eI M0 out = R
  replace hk := hk.symm
  unfold f_X9_inRing at h
  obtain ⟨go0, h⟩ := o_gd h
  show Ev (1) 77 0 [some (.ref o0), some (.int p1), none, none] [] M0 R
  refine ev_go kc_77 4 (i' := 4) (L' := [some (.ref o0), some (.int p1), some (.int (0 : Int32)), some (.int (0 : Int32))]) (st' := []) (M' := M0) rfl ?_
  exact Ev.forget (mLe.kp (mLe.kp (mLe.kp (mLe.kp mLe.nl)))) (e_X9_inRing_l4 go0 h hk)
/-- WakeTower$Tower.uppermost()I: 78, R -/
theorem kc_78 : mKc 78 = k_X9_uppermost := rfl
def f_X9_uppermost_4 (o0 : Nat) (l1 : Int32) (l2 : Int32) (M0 : mM) : Option (Int32 ⊕ (Int32 × Int32)) :=
  bif decide ((8 : Int32) ≤ l2) then (some (.inl l1)) else (bif (f_X11_has (M0 o0 1) l2) then (gd (mIn l2 8) (bif decide ((M0 (o0 + 5) (ix l2)) ≤ l1) then (some (.inr (l1, (l2 + (1 : Int32))))) else (gd (mIn l2 8) (some (.inr ((M0 (o0 + 5) (ix l2)), (l2 + (1 : Int32)))))))) else (some (.inr (l1, (l2 + (1 : Int32))))))
set_option maxRecDepth 8000 in
theorem e_X9_uppermost_4 {o0 : Nat} {l1 : Int32} {l2 : Int32} {M0 : mM} {R : mZ} {out : (Int32 ⊕ (Int32 × Int32))} (go0 : mTwB o0 = true) (h : f_X9_uppermost_4 o0 l1 l2 M0 = some out) (hk : (∀ s' : Int32 × Int32, out = .inr s' → Ev (1) 78 4 [some (.ref o0), some (.int s'.1), some (.int s'.2)] [] M0 R) ∧ (∀ e1 : Int32, out = .inl e1 → R = emR eI M0 e1)) : Ev (1) 78 4 [some (.ref o0), some (.int l1), some (.int l2)] [] M0 R := by
  unfold f_X9_uppermost_4 at h
  rcases o_bif h with ⟨hb1, h⟩ | ⟨hb1, h⟩
  · refine ev_goT kc_78 3 (t := 25) (e := 7) (L' := [some (.ref o0), some (.int l1), some (.int l2)]) (st' := []) rfl hb1 ?_
    refine ev_go kc_78 1 (i' := 26) (L' := [some (.ref o0), some (.int l1), some (.int l2)]) (st' := [.int l1]) (M' := M0) rfl ?_
    obtain rfl := Option.some.inj h
    rw [show _ from (hk.2 _ rfl)]
    exact ev_ret kc_78 rfl rfl rfl
  · refine ev_goF kc_78 3 (t := 25) (e := 7) (L' := [some (.ref o0), some (.int l1), some (.int l2)]) (st' := []) rfl hb1 ?_
    refine ev_go kc_78 1 (i' := 8) (L' := [some (.ref o0), some (.int l1), some (.int l2)]) (st' := [.ref o0]) (M' := M0) rfl ?_
    refine ev_gf kc_78 rfl (mTw0 go0) rfl ?_
    refine ev_go kc_78 1 (i' := 10) (L' := [some (.ref o0), some (.int l1), some (.int l2)]) (st' := [.int l2, .int (M0 o0 1)]) (M' := M0) rfl ?_
    refine ev_cl0 (ins := .invokestatic 91) kc_78 rfl rfl (a := 178) (as := [.int (M0 o0 1), .int l2]) (rest := []) rfl rfl (Cs.deep (c_X11_has (M0 := M0)) (by decide)) ?_
    rcases o_bif h with ⟨hb3, h⟩ | ⟨hb3, h⟩
    · refine ev_goF kc_78 1 (t := 23) (e := 12) (L' := [some (.ref o0), some (.int l1), some (.int l2)]) (st' := []) rfl (mB_e0f hb3) ?_
      refine ev_go kc_78 1 (i' := 13) (L' := [some (.ref o0), some (.int l1), some (.int l2)]) (st' := [.ref o0]) (M' := M0) rfl ?_
      refine ev_gr kc_78 rfl (mTw0 go0) (j := 4) rfl ?_
      refine ev_go kc_78 1 (i' := 15) (L' := [some (.ref o0), some (.int l1), some (.int l2)]) (st' := [.int l2, .ref (o0 + 5)]) (M' := M0) rfl ?_
      obtain ⟨hg4, h⟩ := o_gd h
      refine ev_ia kc_78 rfl (mTw5 go0) hg4 ?_
      rcases o_bif h with ⟨hb5, h⟩ | ⟨hb5, h⟩
      · refine ev_goT kc_78 2 (t := 23) (e := 18) (L' := [some (.ref o0), some (.int l1), some (.int l2)]) (st' := []) rfl hb5 ?_
        refine ev_go kc_78 2 (i' := 4) (L' := [some (.ref o0), some (.int l1), some (.int (l2 + (1 : Int32)))]) (st' := []) (M' := M0) rfl ?_
        obtain rfl := Option.some.inj h
        exact Ev.forget (mLe.kp (mLe.kp (mLe.kp mLe.nl))) (hk.1 (l1, (l2 + (1 : Int32))) rfl)
      · refine ev_goF kc_78 2 (t := 23) (e := 18) (L' := [some (.ref o0), some (.int l1), some (.int l2)]) (st' := []) rfl hb5 ?_
        refine ev_go kc_78 1 (i' := 19) (L' := [some (.ref o0), some (.int l1), some (.int l2)]) (st' := [.ref o0]) (M' := M0) rfl ?_
        refine ev_gr kc_78 rfl (mTw0 go0) (j := 4) rfl ?_
        refine ev_go kc_78 1 (i' := 21) (L' := [some (.ref o0), some (.int l1), some (.int l2)]) (st' := [.int l2, .ref (o0 + 5)]) (M' := M0) rfl ?_
        obtain ⟨hg6, h⟩ := o_gd h
        refine ev_ia kc_78 rfl (mTw5 go0) hg6 ?_
        refine ev_go kc_78 3 (i' := 4) (L' := [some (.ref o0), some (.int (M0 (o0 + 5) (ix l2))), some (.int (l2 + (1 : Int32)))]) (st' := []) (M' := M0) rfl ?_
        obtain rfl := Option.some.inj h
        exact Ev.forget (mLe.kp (mLe.kp (mLe.kp mLe.nl))) (hk.1 ((M0 (o0 + 5) (ix l2)), (l2 + (1 : Int32))) rfl)
    · refine ev_goT kc_78 1 (t := 23) (e := 12) (L' := [some (.ref o0), some (.int l1), some (.int l2)]) (st' := []) rfl (mB_e0t hb3) ?_
      refine ev_go kc_78 2 (i' := 4) (L' := [some (.ref o0), some (.int l1), some (.int (l2 + (1 : Int32)))]) (st' := []) (M' := M0) rfl ?_
      obtain rfl := Option.some.inj h
      exact Ev.forget (mLe.kp (mLe.kp (mLe.kp mLe.nl))) (hk.1 (l1, (l2 + (1 : Int32))) rfl)
def f_X9_uppermost_l4 (o0 : Nat) (l1 : Int32) (l2 : Int32) (M0 : mM) : Option Int32 :=
  wh 100000 (fun s : Int32 × Int32 => f_X9_uppermost_4 o0 s.1 s.2 M0) (l1, l2)
theorem e_X9_uppermost_l4 {o0 : Nat} {l1 : Int32} {l2 : Int32} {M0 : mM} {R : mZ} {out : Int32} (go0 : mTwB o0 = true) (h : f_X9_uppermost_l4 o0 l1 l2 M0 = some out) (hk : R = emR eI M0 out) : Ev (1) 78 4 [some (.ref o0), some (.int l1), some (.int l2)] [] M0 R := by
  unfold f_X9_uppermost_l4 at h
  exact wh_ev (P := fun s : Int32 × Int32 => Ev (1) 78 4 [some (.ref o0), some (.int s.1), some (.int s.2)] [] M0 R) (Q := fun e : Int32 => R = emR eI M0 e) (fun s o hb h1 h2 => e_X9_uppermost_4 go0 hb ⟨h1, h2⟩) 100000 _ _ h hk
def f_X9_uppermost (o0 : Nat) (M0 : mM) : Option Int32 :=
  gd (mTwB o0) (f_X9_uppermost_l4 o0 (-1 : Int32) (0 : Int32) M0)
set_option maxRecDepth 8000 in
theorem c_X9_uppermost {o0 : Nat} {M0 : mM} {out : Int32} (h : f_X9_uppermost o0 M0 = some out) : Cs (1) 78 [.ref o0] M0 (emR eI M0 out) := by
  generalize hk : emR eI M0 out = R
  replace hk := hk.symm
  unfold f_X9_uppermost at h
  obtain ⟨go0, h⟩ := o_gd h
  show Ev (1) 78 0 [some (.ref o0), none, none] [] M0 R
  refine ev_go kc_78 4 (i' := 4) (L' := [some (.ref o0), some (.int (-1 : Int32)), some (.int (0 : Int32))]) (st' := []) (M' := M0) rfl ?_
  exact Ev.forget (mLe.kp (mLe.kp (mLe.kp mLe.nl))) (e_X9_uppermost_l4 go0 h hk)
/-- WakeTower$Tower.spare(I)I: 79, R -/
theorem kc_79 : mKc 79 = k_X9_spare := rfl
def f_X9_spare (o0 : Nat) (p1 : Int32) (M0 : mM) : Option Int32 :=
  gd (mTwB o0) (gd (mIn p1 8) (gd (mIn p1 8) (some ((M0 (o0 + 3) (ix p1)) - (M0 (o0 + 7) (ix p1))))))
set_option maxRecDepth 8000 in
theorem c_X9_spare {o0 : Nat} {p1 : Int32} {M0 : mM} {out : Int32} (h : f_X9_spare o0 p1 M0 = some out) : Cs (0) 79 [.ref o0, .int p1] M0 (emR eI M0 out) := by
  generalize hk : emR eI M0 out = R
  replace hk := hk.symm
  unfold f_X9_spare at h
  obtain ⟨go0, h⟩ := o_gd h
  show Ev (0) 79 0 [some (.ref o0), some (.int p1)] [] M0 R
  refine ev_go kc_79 1 (i' := 1) (L' := [some (.ref o0), some (.int p1)]) (st' := [.ref o0]) (M' := M0) rfl ?_
  refine ev_gr kc_79 rfl (mTw0 go0) (j := 2) rfl ?_
  refine ev_go kc_79 1 (i' := 3) (L' := [some (.ref o0), some (.int p1)]) (st' := [.int p1, .ref (o0 + 3)]) (M' := M0) rfl ?_
  obtain ⟨hg1, h⟩ := o_gd h
  refine ev_ia kc_79 rfl (mTw3 go0) hg1 ?_
  refine ev_go kc_79 1 (i' := 5) (L' := [some (.ref o0), some (.int p1)]) (st' := [.ref o0, .int (M0 (o0 + 3) (ix p1))]) (M' := M0) rfl ?_
  refine ev_gr kc_79 rfl (mTw0 go0) (j := 6) rfl ?_
  refine ev_go kc_79 1 (i' := 7) (L' := [some (.ref o0), some (.int p1)]) (st' := [.int p1, .ref (o0 + 7), .int (M0 (o0 + 3) (ix p1))]) (M' := M0) rfl ?_
  obtain ⟨hg2, h⟩ := o_gd h
  refine ev_ia kc_79 rfl (mTw7 go0) hg2 ?_
  refine ev_go kc_79 1 (i' := 9) (L' := [some (.ref o0), some (.int p1)]) (st' := [.int ((M0 (o0 + 3) (ix p1)) - (M0 (o0 + 7) (ix p1)))]) (M' := M0) rfl ?_
  obtain rfl := Option.some.inj h
  rw [hk]
  exact ev_ret kc_79 rfl rfl rfl
/-- WakeTower$Tower.borneByAll()I: 80, R -/
theorem kc_80 : mKc 80 = k_X9_borneByAll := rfl
def f_X9_borneByAll_4 (o0 : Nat) (l1 : Int32) (l2 : Int32) (M0 : mM) : Option (Int32 ⊕ (Int32 × Int32)) :=
  bif decide ((8 : Int32) ≤ l2) then (some (.inl l1)) else (gd (mIn l2 8) (some (.inr ((l1 + (M0 (o0 + 7) (ix l2))), (l2 + (1 : Int32))))))
set_option maxRecDepth 8000 in
theorem e_X9_borneByAll_4 {o0 : Nat} {l1 : Int32} {l2 : Int32} {M0 : mM} {R : mZ} {out : (Int32 ⊕ (Int32 × Int32))} (go0 : mTwB o0 = true) (h : f_X9_borneByAll_4 o0 l1 l2 M0 = some out) (hk : (∀ s' : Int32 × Int32, out = .inr s' → Ev (0) 80 4 [some (.ref o0), some (.int s'.1), some (.int s'.2)] [] M0 R) ∧ (∀ e1 : Int32, out = .inl e1 → R = emR eI M0 e1)) : Ev (0) 80 4 [some (.ref o0), some (.int l1), some (.int l2)] [] M0 R := by
  unfold f_X9_borneByAll_4 at h
  rcases o_bif h with ⟨hb1, h⟩ | ⟨hb1, h⟩
  · refine ev_goT kc_80 3 (t := 16) (e := 7) (L' := [some (.ref o0), some (.int l1), some (.int l2)]) (st' := []) rfl hb1 ?_
    refine ev_go kc_80 1 (i' := 17) (L' := [some (.ref o0), some (.int l1), some (.int l2)]) (st' := [.int l1]) (M' := M0) rfl ?_
    obtain rfl := Option.some.inj h
    rw [show _ from (hk.2 _ rfl)]
    exact ev_ret kc_80 rfl rfl rfl
  · refine ev_goF kc_80 3 (t := 16) (e := 7) (L' := [some (.ref o0), some (.int l1), some (.int l2)]) (st' := []) rfl hb1 ?_
    refine ev_go kc_80 2 (i' := 9) (L' := [some (.ref o0), some (.int l1), some (.int l2)]) (st' := [.ref o0, .int l1]) (M' := M0) rfl ?_
    refine ev_gr kc_80 rfl (mTw0 go0) (j := 6) rfl ?_
    refine ev_go kc_80 1 (i' := 11) (L' := [some (.ref o0), some (.int l1), some (.int l2)]) (st' := [.int l2, .ref (o0 + 7), .int l1]) (M' := M0) rfl ?_
    obtain ⟨hg2, h⟩ := o_gd h
    refine ev_ia kc_80 rfl (mTw7 go0) hg2 ?_
    refine ev_go kc_80 4 (i' := 4) (L' := [some (.ref o0), some (.int (l1 + (M0 (o0 + 7) (ix l2)))), some (.int (l2 + (1 : Int32)))]) (st' := []) (M' := M0) rfl ?_
    obtain rfl := Option.some.inj h
    exact Ev.forget (mLe.kp (mLe.kp (mLe.kp mLe.nl))) (hk.1 ((l1 + (M0 (o0 + 7) (ix l2))), (l2 + (1 : Int32))) rfl)
def f_X9_borneByAll_l4 (o0 : Nat) (l1 : Int32) (l2 : Int32) (M0 : mM) : Option Int32 :=
  wh 100000 (fun s : Int32 × Int32 => f_X9_borneByAll_4 o0 s.1 s.2 M0) (l1, l2)
theorem e_X9_borneByAll_l4 {o0 : Nat} {l1 : Int32} {l2 : Int32} {M0 : mM} {R : mZ} {out : Int32} (go0 : mTwB o0 = true) (h : f_X9_borneByAll_l4 o0 l1 l2 M0 = some out) (hk : R = emR eI M0 out) : Ev (0) 80 4 [some (.ref o0), some (.int l1), some (.int l2)] [] M0 R := by
  unfold f_X9_borneByAll_l4 at h
  exact wh_ev (P := fun s : Int32 × Int32 => Ev (0) 80 4 [some (.ref o0), some (.int s.1), some (.int s.2)] [] M0 R) (Q := fun e : Int32 => R = emR eI M0 e) (fun s o hb h1 h2 => e_X9_borneByAll_4 go0 hb ⟨h1, h2⟩) 100000 _ _ h hk
def f_X9_borneByAll (o0 : Nat) (M0 : mM) : Option Int32 :=
  gd (mTwB o0) (f_X9_borneByAll_l4 o0 (0 : Int32) (0 : Int32) M0)
set_option maxRecDepth 8000 in
theorem c_X9_borneByAll {o0 : Nat} {M0 : mM} {out : Int32} (h : f_X9_borneByAll o0 M0 = some out) : Cs (0) 80 [.ref o0] M0 (emR eI M0 out) := by
  generalize hk : emR eI M0 out = R
  replace hk := hk.symm
  unfold f_X9_borneByAll at h
  obtain ⟨go0, h⟩ := o_gd h
  show Ev (0) 80 0 [some (.ref o0), none, none] [] M0 R
  refine ev_go kc_80 4 (i' := 4) (L' := [some (.ref o0), some (.int (0 : Int32)), some (.int (0 : Int32))]) (st' := []) (M' := M0) rfl ?_
  exact Ev.forget (mLe.kp (mLe.kp (mLe.kp mLe.nl))) (e_X9_borneByAll_l4 go0 h hk)
/-- WakeTower$Tower.strengthOfAll()I: 81, R -/
theorem kc_81 : mKc 81 = k_X9_strengthOfAll := rfl
def f_X9_strengthOfAll_4 (o0 : Nat) (l1 : Int32) (l2 : Int32) (M0 : mM) : Option (Int32 ⊕ (Int32 × Int32)) :=
  bif decide ((8 : Int32) ≤ l2) then (some (.inl l1)) else (gd (mIn l2 8) (some (.inr ((l1 + (M0 (o0 + 3) (ix l2))), (l2 + (1 : Int32))))))
set_option maxRecDepth 8000 in
theorem e_X9_strengthOfAll_4 {o0 : Nat} {l1 : Int32} {l2 : Int32} {M0 : mM} {R : mZ} {out : (Int32 ⊕ (Int32 × Int32))} (go0 : mTwB o0 = true) (h : f_X9_strengthOfAll_4 o0 l1 l2 M0 = some out) (hk : (∀ s' : Int32 × Int32, out = .inr s' → Ev (0) 81 4 [some (.ref o0), some (.int s'.1), some (.int s'.2)] [] M0 R) ∧ (∀ e1 : Int32, out = .inl e1 → R = emR eI M0 e1)) : Ev (0) 81 4 [some (.ref o0), some (.int l1), some (.int l2)] [] M0 R := by
  unfold f_X9_strengthOfAll_4 at h
  rcases o_bif h with ⟨hb1, h⟩ | ⟨hb1, h⟩
  · refine ev_goT kc_81 3 (t := 16) (e := 7) (L' := [some (.ref o0), some (.int l1), some (.int l2)]) (st' := []) rfl hb1 ?_
    refine ev_go kc_81 1 (i' := 17) (L' := [some (.ref o0), some (.int l1), some (.int l2)]) (st' := [.int l1]) (M' := M0) rfl ?_
    obtain rfl := Option.some.inj h
    rw [show _ from (hk.2 _ rfl)]
    exact ev_ret kc_81 rfl rfl rfl
  · refine ev_goF kc_81 3 (t := 16) (e := 7) (L' := [some (.ref o0), some (.int l1), some (.int l2)]) (st' := []) rfl hb1 ?_
    refine ev_go kc_81 2 (i' := 9) (L' := [some (.ref o0), some (.int l1), some (.int l2)]) (st' := [.ref o0, .int l1]) (M' := M0) rfl ?_
    refine ev_gr kc_81 rfl (mTw0 go0) (j := 2) rfl ?_
    refine ev_go kc_81 1 (i' := 11) (L' := [some (.ref o0), some (.int l1), some (.int l2)]) (st' := [.int l2, .ref (o0 + 3), .int l1]) (M' := M0) rfl ?_
    obtain ⟨hg2, h⟩ := o_gd h
    refine ev_ia kc_81 rfl (mTw3 go0) hg2 ?_
    refine ev_go kc_81 4 (i' := 4) (L' := [some (.ref o0), some (.int (l1 + (M0 (o0 + 3) (ix l2)))), some (.int (l2 + (1 : Int32)))]) (st' := []) (M' := M0) rfl ?_
    obtain rfl := Option.some.inj h
    exact Ev.forget (mLe.kp (mLe.kp (mLe.kp mLe.nl))) (hk.1 ((l1 + (M0 (o0 + 3) (ix l2))), (l2 + (1 : Int32))) rfl)
def f_X9_strengthOfAll_l4 (o0 : Nat) (l1 : Int32) (l2 : Int32) (M0 : mM) : Option Int32 :=
  wh 100000 (fun s : Int32 × Int32 => f_X9_strengthOfAll_4 o0 s.1 s.2 M0) (l1, l2)
theorem e_X9_strengthOfAll_l4 {o0 : Nat} {l1 : Int32} {l2 : Int32} {M0 : mM} {R : mZ} {out : Int32} (go0 : mTwB o0 = true) (h : f_X9_strengthOfAll_l4 o0 l1 l2 M0 = some out) (hk : R = emR eI M0 out) : Ev (0) 81 4 [some (.ref o0), some (.int l1), some (.int l2)] [] M0 R := by
  unfold f_X9_strengthOfAll_l4 at h
  exact wh_ev (P := fun s : Int32 × Int32 => Ev (0) 81 4 [some (.ref o0), some (.int s.1), some (.int s.2)] [] M0 R) (Q := fun e : Int32 => R = emR eI M0 e) (fun s o hb h1 h2 => e_X9_strengthOfAll_4 go0 hb ⟨h1, h2⟩) 100000 _ _ h hk
def f_X9_strengthOfAll (o0 : Nat) (M0 : mM) : Option Int32 :=
  gd (mTwB o0) (f_X9_strengthOfAll_l4 o0 (0 : Int32) (0 : Int32) M0)
set_option maxRecDepth 8000 in
theorem c_X9_strengthOfAll {o0 : Nat} {M0 : mM} {out : Int32} (h : f_X9_strengthOfAll o0 M0 = some out) : Cs (0) 81 [.ref o0] M0 (emR eI M0 out) := by
  generalize hk : emR eI M0 out = R
  replace hk := hk.symm
  unfold f_X9_strengthOfAll at h
  obtain ⟨go0, h⟩ := o_gd h
  show Ev (0) 81 0 [some (.ref o0), none, none] [] M0 R
  refine ev_go kc_81 4 (i' := 4) (L' := [some (.ref o0), some (.int (0 : Int32)), some (.int (0 : Int32))]) (st' := []) (M' := M0) rfl ?_
  exact Ev.forget (mLe.kp (mLe.kp (mLe.kp mLe.nl))) (e_X9_strengthOfAll_l4 go0 h hk)
/-- WakeTower$Tower.addPerson(II)V: 82, W -/
theorem kc_82 : mKc 82 = k_X9_addPerson := rfl
def f_X9_addPerson (o0 : Nat) (p1 : Int32) (p2 : Int32) (M0 : mM) : Option (Unit × mM) :=
  gd (mTwB o0) (bif decide ((M0 o0 0) < 0) then (some ((), M0)) else (bif decide ((8 : Int32) ≤ (M0 o0 0)) then (some ((), M0)) else (gd (mIn (M0 o0 0) 8) (wr (mst M0 (o0 + 1) (ix (M0 o0 0)) p1) (fun M3 => gd (mIn (M3 o0 0) 8) (wr (mst M3 (o0 + 2) (ix (M3 o0 0)) p2) (fun M5 => gd (mIn (M5 o0 0) 8) (wr (mst M5 (o0 + 3) (ix (M5 o0 0)) p2) (fun M7 => wr (mst M7 o0 0 ((M7 o0 0) + (1 : Int32))) (fun M9 => some ((), M9)))))))))))
set_option maxRecDepth 8000 in
theorem c_X9_addPerson {o0 : Nat} {p1 : Int32} {p2 : Int32} {M0 : mM} {out : (Unit × mM)} (h : f_X9_addPerson o0 p1 p2 M0 = some out) : Cs (0) 82 [.ref o0, .int p1, .int p2] M0 (emW eU out) := by
  generalize hk : emW eU out = R
  replace hk := hk.symm
  unfold f_X9_addPerson at h
  obtain ⟨go0, h⟩ := o_gd h
  show Ev (0) 82 0 [some (.ref o0), some (.int p1), some (.int p2)] [] M0 R
  refine ev_go kc_82 1 (i' := 1) (L' := [some (.ref o0), some (.int p1), some (.int p2)]) (st' := [.ref o0]) (M' := M0) rfl ?_
  refine ev_gf kc_82 rfl (mTw0 go0) rfl ?_
  rcases o_bif h with ⟨hb1, h⟩ | ⟨hb1, h⟩
  · refine ev_goT kc_82 1 (t := 31) (e := 3) (L' := [some (.ref o0), some (.int p1), some (.int p2)]) (st' := []) rfl hb1 ?_
    obtain rfl := Option.some.inj h
    rw [hk]
    exact ev_vret kc_82 rfl rfl rfl
  · refine ev_goF kc_82 1 (t := 31) (e := 3) (L' := [some (.ref o0), some (.int p1), some (.int p2)]) (st' := []) rfl hb1 ?_
    refine ev_go kc_82 1 (i' := 4) (L' := [some (.ref o0), some (.int p1), some (.int p2)]) (st' := [.ref o0]) (M' := M0) rfl ?_
    refine ev_gf kc_82 rfl (mTw0 go0) rfl ?_
    rcases o_bif h with ⟨hb2, h⟩ | ⟨hb2, h⟩
    · refine ev_goT kc_82 2 (t := 31) (e := 7) (L' := [some (.ref o0), some (.int p1), some (.int p2)]) (st' := []) rfl hb2 ?_
      obtain rfl := Option.some.inj h
      rw [hk]
      exact ev_vret kc_82 rfl rfl rfl
    · refine ev_goF kc_82 2 (t := 31) (e := 7) (L' := [some (.ref o0), some (.int p1), some (.int p2)]) (st' := []) rfl hb2 ?_
      refine ev_go kc_82 1 (i' := 8) (L' := [some (.ref o0), some (.int p1), some (.int p2)]) (st' := [.ref o0]) (M' := M0) rfl ?_
      refine ev_gr kc_82 rfl (mTw0 go0) (j := 0) rfl ?_
      refine ev_go kc_82 1 (i' := 10) (L' := [some (.ref o0), some (.int p1), some (.int p2)]) (st' := [.ref o0, .ref (o0 + 1)]) (M' := M0) rfl ?_
      refine ev_gf kc_82 rfl (mTw0 go0) rfl ?_
      refine ev_go kc_82 1 (i' := 12) (L' := [some (.ref o0), some (.int p1), some (.int p2)]) (st' := [.int p1, .int (M0 o0 0), .ref (o0 + 1)]) (M' := M0) rfl ?_
      obtain ⟨hg4, h⟩ := o_gd h
      obtain ⟨M3, hM3, h⟩ := o_wr h
      refine ev_is kc_82 rfl (mTw1 go0) hg4 hM3 ?_
      refine ev_go kc_82 1 (i' := 14) (L' := [some (.ref o0), some (.int p1), some (.int p2)]) (st' := [.ref o0]) (M' := M3) rfl ?_
      refine ev_gr kc_82 rfl (mTw0 go0) (j := 1) rfl ?_
      refine ev_go kc_82 1 (i' := 16) (L' := [some (.ref o0), some (.int p1), some (.int p2)]) (st' := [.ref o0, .ref (o0 + 2)]) (M' := M3) rfl ?_
      refine ev_gf kc_82 rfl (mTw0 go0) rfl ?_
      refine ev_go kc_82 1 (i' := 18) (L' := [some (.ref o0), some (.int p1), some (.int p2)]) (st' := [.int p2, .int (M3 o0 0), .ref (o0 + 2)]) (M' := M3) rfl ?_
      obtain ⟨hg6, h⟩ := o_gd h
      obtain ⟨M5, hM5, h⟩ := o_wr h
      refine ev_is kc_82 rfl (mTw2 go0) hg6 hM5 ?_
      refine ev_go kc_82 1 (i' := 20) (L' := [some (.ref o0), some (.int p1), some (.int p2)]) (st' := [.ref o0]) (M' := M5) rfl ?_
      refine ev_gr kc_82 rfl (mTw0 go0) (j := 2) rfl ?_
      refine ev_go kc_82 1 (i' := 22) (L' := [some (.ref o0), some (.int p1), some (.int p2)]) (st' := [.ref o0, .ref (o0 + 3)]) (M' := M5) rfl ?_
      refine ev_gf kc_82 rfl (mTw0 go0) rfl ?_
      refine ev_go kc_82 1 (i' := 24) (L' := [some (.ref o0), some (.int p1), some (.int p2)]) (st' := [.int p2, .int (M5 o0 0), .ref (o0 + 3)]) (M' := M5) rfl ?_
      obtain ⟨hg8, h⟩ := o_gd h
      obtain ⟨M7, hM7, h⟩ := o_wr h
      refine ev_is kc_82 rfl (mTw3 go0) hg8 hM7 ?_
      refine ev_go kc_82 2 (i' := 27) (L' := [some (.ref o0), some (.int p1), some (.int p2)]) (st' := [.ref o0, .ref o0]) (M' := M7) rfl ?_
      refine ev_gf kc_82 rfl (mTw0 go0) rfl ?_
      refine ev_go kc_82 2 (i' := 30) (L' := [some (.ref o0), some (.int p1), some (.int p2)]) (st' := [.int ((M7 o0 0) + (1 : Int32)), .ref o0]) (M' := M7) rfl ?_
      obtain ⟨M9, hM9, h⟩ := o_wr h
      refine ev_pf kc_82 rfl (mTw0 go0) rfl rfl (fun hc => absurd hc (by decide)) hM9 ?_
      obtain rfl := Option.some.inj h
      rw [hk]
      exact ev_vret kc_82 rfl rfl rfl
/-- WakeTower$Tower.fitsRing(II)Z: 83, R -/
theorem kc_83 : mKc 83 = k_X9_fitsRing := rfl
def f_X9_fitsRing (o0 : Nat) (p1 : Int32) (p2 : Int32) (M0 : mM) : Option Bool :=
  gd (mTwB o0) (bif decide (¬ p1 = 0) then (bif decide (p2 = 0) then (some false) else (b1 (f_X9_inRing o0 (p1 - (1 : Int32)) M0) (fun v3 => bif (f_X11_within p2 v3) then (some true) else (some false)))) else (bif decide (¬ p2 = 0) then (some false) else (some true)))
set_option maxRecDepth 8000 in
theorem c_X9_fitsRing {o0 : Nat} {p1 : Int32} {p2 : Int32} {M0 : mM} {out : Bool} (h : f_X9_fitsRing o0 p1 p2 M0 = some out) : Cs (2) 83 [.ref o0, .int p1, .int p2] M0 (emR eB M0 out) := by
  generalize hk : emR eB M0 out = R
  replace hk := hk.symm
  unfold f_X9_fitsRing at h
  obtain ⟨go0, h⟩ := o_gd h
  show Ev (2) 83 0 [some (.ref o0), some (.int p1), some (.int p2)] [] M0 R
  rcases o_bif h with ⟨hb1, h⟩ | ⟨hb1, h⟩
  · refine ev_goT kc_83 2 (t := 8) (e := 2) (L' := [some (.ref o0), some (.int p1), some (.int p2)]) (st' := []) rfl hb1 ?_
    rcases o_bif h with ⟨hb2, h⟩ | ⟨hb2, h⟩
    · refine ev_goT kc_83 2 (t := 20) (e := 10) (L' := [some (.ref o0), some (.int p1), some (.int p2)]) (st' := []) rfl hb2 ?_
      refine ev_go kc_83 1 (i' := 21) (L' := [some (.ref o0), some (.int p1), some (.int p2)]) (st' := [.int (0 : Int32)]) (M' := M0) rfl ?_
      obtain rfl := Option.some.inj h
      rw [hk]
      exact ev_ret kc_83 rfl rfl rfl
    · refine ev_goF kc_83 2 (t := 20) (e := 10) (L' := [some (.ref o0), some (.int p1), some (.int p2)]) (st' := []) rfl hb2 ?_
      refine ev_go kc_83 5 (i' := 15) (L' := [some (.ref o0), some (.int p1), some (.int p2)]) (st' := [.int (p1 - (1 : Int32)), .ref o0, .int p2]) (M' := M0) rfl ?_
      obtain ⟨v3, hc3, h⟩ := o_b1 h
      refine ev_cl0 (ins := .invokevirtual 95) kc_83 rfl rfl (a := 77) (as := [.ref o0, .int (p1 - (1 : Int32))]) (rest := [.int p2]) rfl (m_rec (mTw0 go0)) (Cs.deep (c_X9_inRing (M0 := M0) hc3) (by decide)) ?_
      refine ev_cl0 (ins := .invokestatic 98) kc_83 rfl rfl (a := 179) (as := [.int p2, .int v3]) (rest := []) rfl rfl (Cs.deep (c_X11_within (M0 := M0)) (by decide)) ?_
      rcases o_bif h with ⟨hb5, h⟩ | ⟨hb5, h⟩
      · refine ev_goF kc_83 1 (t := 20) (e := 18) (L' := [some (.ref o0), some (.int p1), some (.int p2)]) (st' := []) rfl (mB_e0f hb5) ?_
        refine ev_go kc_83 2 (i' := 21) (L' := [some (.ref o0), some (.int p1), some (.int p2)]) (st' := [.int (1 : Int32)]) (M' := M0) rfl ?_
        obtain rfl := Option.some.inj h
        rw [hk]
        exact ev_ret kc_83 rfl rfl rfl
      · refine ev_goT kc_83 1 (t := 20) (e := 18) (L' := [some (.ref o0), some (.int p1), some (.int p2)]) (st' := []) rfl (mB_e0t hb5) ?_
        refine ev_go kc_83 1 (i' := 21) (L' := [some (.ref o0), some (.int p1), some (.int p2)]) (st' := [.int (0 : Int32)]) (M' := M0) rfl ?_
        obtain rfl := Option.some.inj h
        rw [hk]
        exact ev_ret kc_83 rfl rfl rfl
  · refine ev_goF kc_83 2 (t := 8) (e := 2) (L' := [some (.ref o0), some (.int p1), some (.int p2)]) (st' := []) rfl hb1 ?_
    rcases o_bif h with ⟨hb6, h⟩ | ⟨hb6, h⟩
    · refine ev_goT kc_83 2 (t := 6) (e := 4) (L' := [some (.ref o0), some (.int p1), some (.int p2)]) (st' := []) rfl hb6 ?_
      refine ev_go kc_83 2 (i' := 21) (L' := [some (.ref o0), some (.int p1), some (.int p2)]) (st' := [.int (0 : Int32)]) (M' := M0) rfl ?_
      obtain rfl := Option.some.inj h
      rw [hk]
      exact ev_ret kc_83 rfl rfl rfl
    · refine ev_goF kc_83 2 (t := 6) (e := 4) (L' := [some (.ref o0), some (.int p1), some (.int p2)]) (st' := []) rfl hb6 ?_
      refine ev_go kc_83 2 (i' := 21) (L' := [some (.ref o0), some (.int p1), some (.int p2)]) (st' := [.int (1 : Int32)]) (M' := M0) rfl ?_
      obtain rfl := Option.some.inj h
      rw [hk]
      exact ev_ret kc_83 rfl rfl rfl
/-- WakeTower$Tower.settle()V: 88, W -/
theorem kc_88 : mKc 88 = k_X9_settle := rfl
def f_X9_settle_5 (o0 : Nat) (l1 : Int32) (M0 : mM) : Option ((Unit × mM) ⊕ (Int32 × mM)) :=
  bif decide ((8 : Int32) ≤ l1) then (b2 (f_X9_carry o0 (M0 o0 1) (M0 o0 2) (o0 + 7) M0) (fun v2 M2 => some (.inl ((), M2)))) else (gd (mIn l1 8) (wr (mst M0 o0 14 ((M0 o0 14) ||| (M0 (o0 + 6) (ix l1)))) (fun M4 => some (.inr ((l1 + (1 : Int32)), M4)))))
set_option maxRecDepth 8000 in
theorem e_X9_settle_5 {o0 : Nat} {l1 : Int32} {M0 : mM} {R : mZ} {out : ((Unit × mM) ⊕ (Int32 × mM))} (go0 : mTwB o0 = true) (h : f_X9_settle_5 o0 l1 M0 = some out) (hk : (∀ s' : Int32 × mM, out = .inr s' → Ev (3) 88 5 [some (.ref o0), some (.int s'.1)] [] (s'.2) R) ∧ (∀ e1 : (Unit × mM), out = .inl e1 → R = emW eU e1)) : Ev (3) 88 5 [some (.ref o0), some (.int l1)] [] M0 R := by
  unfold f_X9_settle_5 at h
  rcases o_bif h with ⟨hb1, h⟩ | ⟨hb1, h⟩
  · refine ev_goT kc_88 3 (t := 19) (e := 8) (L' := [some (.ref o0), some (.int l1)]) (st' := []) rfl hb1 ?_
    refine ev_go kc_88 2 (i' := 21) (L' := [some (.ref o0), some (.int l1)]) (st' := [.ref o0, .ref o0]) (M' := M0) rfl ?_
    refine ev_gf kc_88 rfl (mTw0 go0) rfl ?_
    refine ev_go kc_88 1 (i' := 23) (L' := [some (.ref o0), some (.int l1)]) (st' := [.ref o0, .int (M0 o0 1), .ref o0]) (M' := M0) rfl ?_
    refine ev_gf kc_88 rfl (mTw0 go0) rfl ?_
    refine ev_go kc_88 1 (i' := 25) (L' := [some (.ref o0), some (.int l1)]) (st' := [.ref o0, .int (M0 o0 2), .int (M0 o0 1), .ref o0]) (M' := M0) rfl ?_
    refine ev_gr kc_88 rfl (mTw0 go0) (j := 6) rfl ?_
    obtain ⟨v2, M2, hc2, h⟩ := o_b2 h
    refine ev_cl0 (ins := .invokevirtual 109) kc_88 rfl rfl (a := 89) (as := [.ref o0, .int (M0 o0 1), .int (M0 o0 2), .ref (o0 + 7)]) (rest := []) rfl (m_rec (mTw0 go0)) (Cs.deep (c_X9_carry hc2) (by decide)) ?_
    obtain rfl := Option.some.inj h
    rw [show _ from (hk.2 _ rfl)]
    exact ev_vret kc_88 rfl rfl rfl
  · refine ev_goF kc_88 3 (t := 19) (e := 8) (L' := [some (.ref o0), some (.int l1)]) (st' := []) rfl hb1 ?_
    refine ev_go kc_88 2 (i' := 10) (L' := [some (.ref o0), some (.int l1)]) (st' := [.ref o0, .ref o0]) (M' := M0) rfl ?_
    refine ev_gf kc_88 rfl (mTw0 go0) rfl ?_
    refine ev_go kc_88 1 (i' := 12) (L' := [some (.ref o0), some (.int l1)]) (st' := [.ref o0, .int (M0 o0 14), .ref o0]) (M' := M0) rfl ?_
    refine ev_gr kc_88 rfl (mTw0 go0) (j := 5) rfl ?_
    refine ev_go kc_88 1 (i' := 14) (L' := [some (.ref o0), some (.int l1)]) (st' := [.int l1, .ref (o0 + 6), .int (M0 o0 14), .ref o0]) (M' := M0) rfl ?_
    obtain ⟨hg3, h⟩ := o_gd h
    refine ev_ia kc_88 rfl (mTw6 go0) hg3 ?_
    refine ev_go kc_88 1 (i' := 16) (L' := [some (.ref o0), some (.int l1)]) (st' := [.int ((M0 o0 14) ||| (M0 (o0 + 6) (ix l1))), .ref o0]) (M' := M0) rfl ?_
    obtain ⟨M4, hM4, h⟩ := o_wr h
    refine ev_pf kc_88 rfl (mTw0 go0) rfl rfl (fun hc => absurd hc (by decide)) hM4 ?_
    refine ev_go kc_88 2 (i' := 5) (L' := [some (.ref o0), some (.int (l1 + (1 : Int32)))]) (st' := []) (M' := M4) rfl ?_
    obtain rfl := Option.some.inj h
    exact Ev.forget (mLe.kp (mLe.kp mLe.nl)) (hk.1 ((l1 + (1 : Int32)), M4) rfl)
def f_X9_settle_l5 (o0 : Nat) (l1 : Int32) (M0 : mM) : Option (Unit × mM) :=
  wh 100000 (fun s : Int32 × mM => f_X9_settle_5 o0 s.1 s.2) (l1, M0)
theorem e_X9_settle_l5 {o0 : Nat} {l1 : Int32} {M0 : mM} {R : mZ} {out : (Unit × mM)} (go0 : mTwB o0 = true) (h : f_X9_settle_l5 o0 l1 M0 = some out) (hk : R = emW eU out) : Ev (3) 88 5 [some (.ref o0), some (.int l1)] [] M0 R := by
  unfold f_X9_settle_l5 at h
  exact wh_ev (P := fun s : Int32 × mM => Ev (3) 88 5 [some (.ref o0), some (.int s.1)] [] s.2 R) (Q := fun e : (Unit × mM) => R = emW eU e) (fun s o hb h1 h2 => e_X9_settle_5 go0 hb ⟨h1, h2⟩) 100000 _ _ h hk
def f_X9_settle (o0 : Nat) (M0 : mM) : Option (Unit × mM) :=
  gd (mTwB o0) (wr (mst M0 o0 14 (0 : Int32)) (fun M5 => f_X9_settle_l5 o0 (0 : Int32) M5))
set_option maxRecDepth 8000 in
theorem c_X9_settle {o0 : Nat} {M0 : mM} {out : (Unit × mM)} (h : f_X9_settle o0 M0 = some out) : Cs (3) 88 [.ref o0] M0 (emW eU out) := by
  generalize hk : emW eU out = R
  replace hk := hk.symm
  unfold f_X9_settle at h
  obtain ⟨go0, h⟩ := o_gd h
  show Ev (3) 88 0 [some (.ref o0), none] [] M0 R
  refine ev_go kc_88 2 (i' := 2) (L' := [some (.ref o0), none]) (st' := [.int (0 : Int32), .ref o0]) (M' := M0) rfl ?_
  obtain ⟨M5, hM5, h⟩ := o_wr h
  refine ev_pf kc_88 rfl (mTw0 go0) rfl rfl (fun hc => absurd hc (by decide)) hM5 ?_
  refine ev_go kc_88 2 (i' := 5) (L' := [some (.ref o0), some (.int (0 : Int32))]) (st' := []) (M' := M5) rfl ?_
  exact Ev.forget (mLe.kp (mLe.kp mLe.nl)) (e_X9_settle_l5 go0 h hk)
