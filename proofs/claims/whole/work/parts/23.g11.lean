/-! the methods, by program -/
/-- WakeTowerModel.dearest()I: 316, W -/
theorem kc_316 : mKc 316 = k_X12_dearest := rfl
def f_X12_dearest_29 (l2 : Int32) (l3 : Int32) (l4 : Int32) (s0 : Int32) (M0 : mM) : Option ((Int32 × mM) ⊕ (Int32 × Int32 × Int32 × mM)) :=
  some (.inr (s0, (mMax l2 l4), (l3 + (1 : Int32)), M0))
set_option maxRecDepth 8000 in
theorem e_X12_dearest_29 {l2 : Int32} {l3 : Int32} {l4 : Int32} {s0 : Int32} {M0 : mM} {R : mZ} {out : ((Int32 × mM) ⊕ (Int32 × Int32 × Int32 × mM))}  (h : f_X12_dearest_29 l2 l3 l4 s0 M0 = some out) (hk : (∀ s' : Int32 × Int32 × Int32 × mM, out = .inr s' → Ev (9) 316 9 [some (.ref 215), some (.int s'.1), some (.int s'.2.1), some (.int s'.2.2.1), none] [] (s'.2.2.2) R) ∧ (∀ e1 : (Int32 × mM), out = .inl e1 → R = emW eI e1)) : Ev (9) 316 29 [some (.ref 215), none, some (.int l2), some (.int l3), some (.int l4)] [.int s0] M0 R := by
  unfold f_X12_dearest_29 at h
  refine ev_go kc_316 3 (i' := 32) (L' := [some (.ref 215), some (.int s0), some (.int l2), some (.int l3), some (.int l4)]) (st' := [.int l4, .int l2]) (M' := M0) rfl ?_
  refine ev_pm kc_316 rfl rfl rfl rfl (as := [.int l2, .int l4]) (rest := []) rfl rfl rfl (v := some (mMax l2 l4)) rfl ?_
  refine ev_go kc_316 3 (i' := 9) (L' := [some (.ref 215), some (.int s0), some (.int (mMax l2 l4)), some (.int (l3 + (1 : Int32))), some (.int l4)]) (st' := []) (M' := M0) rfl ?_
  obtain rfl := Option.some.inj h
  exact Ev.forget (mLe.kp (mLe.kp (mLe.kp (mLe.kp (mLe.sk mLe.nl))))) (hk.1 (s0, (mMax l2 l4), (l3 + (1 : Int32)), M0) rfl)
def f_X12_dearest_9 (l1 : Int32) (l2 : Int32) (l3 : Int32) (M0 : mM) : Option ((Int32 × mM) ⊕ (Int32 × Int32 × Int32 × mM)) :=
  b1 (f_X12_people M0) (fun v1 => bif decide (v1 ≤ l3) then (some (.inl (l1, M0))) else (b2 (f_X12_laysPlaces (2 : Int32) (100 : Int32) ((1 : Int32) <<< (l3 &&& (31 : Int32))) M0) (fun v3 M3 => b1 (f_X12_fewestPlaces M3) (fun v4 => bif decide (v4 ≤ l2) then (f_X12_dearest_29 l2 l3 v4 l1 M3) else (f_X12_dearest_29 l2 l3 v4 l3 M3)))))
set_option maxRecDepth 8000 in
theorem e_X12_dearest_9 {l1 : Int32} {l2 : Int32} {l3 : Int32} {M0 : mM} {R : mZ} {out : ((Int32 × mM) ⊕ (Int32 × Int32 × Int32 × mM))}  (h : f_X12_dearest_9 l1 l2 l3 M0 = some out) (hk : (∀ s' : Int32 × Int32 × Int32 × mM, out = .inr s' → Ev (9) 316 9 [some (.ref 215), some (.int s'.1), some (.int s'.2.1), some (.int s'.2.2.1), none] [] (s'.2.2.2) R) ∧ (∀ e1 : (Int32 × mM), out = .inl e1 → R = emW eI e1)) : Ev (9) 316 9 [some (.ref 215), some (.int l1), some (.int l2), some (.int l3), none] [] M0 R := by
  unfold f_X12_dearest_9 at h
  refine ev_go kc_316 2 (i' := 11) (L' := [some (.ref 215), some (.int l1), some (.int l2), some (.int l3), none]) (st' := [.ref 215, .int l3]) (M' := M0) rfl ?_
  obtain ⟨v1, hc1, h⟩ := o_b1 h
  refine ev_cl0 (ins := .invokevirtual 71) kc_316 rfl rfl (a := 190) (as := [.ref 215]) (rest := [.int l3]) rfl rfl (Cs.deep (c_X12_people (M0 := M0) hc1) (by decide)) ?_
  rcases o_bif h with ⟨hb2, h⟩ | ⟨hb2, h⟩
  · refine ev_goT kc_316 1 (t := 36) (e := 13) (L' := [some (.ref 215), some (.int l1), some (.int l2), some (.int l3), none]) (st' := []) rfl hb2 ?_
    refine ev_go kc_316 1 (i' := 37) (L' := [some (.ref 215), some (.int l1), some (.int l2), some (.int l3), none]) (st' := [.int l1]) (M' := M0) rfl ?_
    obtain rfl := Option.some.inj h
    rw [show _ from (hk.2 _ rfl)]
    exact ev_ret kc_316 rfl rfl rfl
  · refine ev_goF kc_316 1 (t := 36) (e := 13) (L' := [some (.ref 215), some (.int l1), some (.int l2), some (.int l3), none]) (st' := []) rfl hb2 ?_
    refine ev_go kc_316 6 (i' := 19) (L' := [some (.ref 215), some (.int l1), some (.int l2), some (.int l3), none]) (st' := [.int ((1 : Int32) <<< (l3 &&& (31 : Int32))), .int (100 : Int32), .int (2 : Int32), .ref 215]) (M' := M0) rfl ?_
    obtain ⟨v3, M3, hc3, h⟩ := o_b2 h
    refine ev_cl0 (ins := .invokevirtual 448) kc_316 rfl rfl (a := 312) (as := [.ref 215, .int (2 : Int32), .int (100 : Int32), .int ((1 : Int32) <<< (l3 &&& (31 : Int32)))]) (rest := []) rfl rfl (Cs.deep (c_X12_laysPlaces hc3) (by decide)) ?_
    refine ev_go kc_316 1 (i' := 21) (L' := [some (.ref 215), some (.int l1), some (.int l2), some (.int l3), none]) (st' := [.ref 215]) (M' := M3) rfl ?_
    obtain ⟨v4, hc4, h⟩ := o_b1 h
    refine ev_cl0 (ins := .invokevirtual 451) kc_316 rfl rfl (a := 313) (as := [.ref 215]) (rest := []) rfl rfl (Cs.deep (c_X12_fewestPlaces (M0 := M3) hc4) (by decide)) ?_
    rcases o_bif h with ⟨hb5, h⟩ | ⟨hb5, h⟩
    · refine ev_goT kc_316 4 (t := 28) (e := 26) (L' := [some (.ref 215), some (.int l1), some (.int l2), some (.int l3), some (.int v4)]) (st' := []) rfl hb5 ?_
      refine ev_go kc_316 1 (i' := 29) (L' := [some (.ref 215), some (.int l1), some (.int l2), some (.int l3), some (.int v4)]) (st' := [.int l1]) (M' := M3) rfl ?_
      exact Ev.forget (mLe.kp (mLe.sk (mLe.kp (mLe.kp (mLe.kp mLe.nl))))) (e_X12_dearest_29  h hk)
    · refine ev_goF kc_316 4 (t := 28) (e := 26) (L' := [some (.ref 215), some (.int l1), some (.int l2), some (.int l3), some (.int v4)]) (st' := []) rfl hb5 ?_
      refine ev_go kc_316 2 (i' := 29) (L' := [some (.ref 215), some (.int l1), some (.int l2), some (.int l3), some (.int v4)]) (st' := [.int l3]) (M' := M3) rfl ?_
      exact Ev.forget (mLe.kp (mLe.sk (mLe.kp (mLe.kp (mLe.kp mLe.nl))))) (e_X12_dearest_29  h hk)
def f_X12_dearest_l9 (l1 : Int32) (l2 : Int32) (l3 : Int32) (M0 : mM) : Option (Int32 × mM) :=
  wh 100000 (fun s : Int32 × Int32 × Int32 × mM => f_X12_dearest_9 s.1 s.2.1 s.2.2.1 s.2.2.2) (l1, l2, l3, M0)
theorem e_X12_dearest_l9 {l1 : Int32} {l2 : Int32} {l3 : Int32} {M0 : mM} {R : mZ} {out : (Int32 × mM)}  (h : f_X12_dearest_l9 l1 l2 l3 M0 = some out) (hk : R = emW eI out) : Ev (9) 316 9 [some (.ref 215), some (.int l1), some (.int l2), some (.int l3), none] [] M0 R := by
  unfold f_X12_dearest_l9 at h
  exact wh_ev (P := fun s : Int32 × Int32 × Int32 × mM => Ev (9) 316 9 [some (.ref 215), some (.int s.1), some (.int s.2.1), some (.int s.2.2.1), none] [] s.2.2.2 R) (Q := fun e : (Int32 × mM) => R = emW eI e) (fun s o hb h1 h2 => e_X12_dearest_9  hb ⟨h1, h2⟩) 100000 _ _ h hk
def f_X12_dearest  (M0 : mM) : Option (Int32 × mM) :=
  wr (mst M0 215 0 (0 : Int32)) (fun M6 => f_X12_dearest_l9 (-1 : Int32) (-1 : Int32) (0 : Int32) M6)
set_option maxRecDepth 8000 in
theorem c_X12_dearest  {M0 : mM} {out : (Int32 × mM)} (h : f_X12_dearest M0 = some out) : Cs (9) 316 [.ref 215] M0 (emW eI out) := by
  generalize hk : emW eI out = R
  replace hk := hk.symm
  unfold f_X12_dearest at h
  show Ev (9) 316 0 [some (.ref 215), none, none, none, none] [] M0 R
  refine ev_go kc_316 2 (i' := 2) (L' := [some (.ref 215), none, none, none, none]) (st' := [.int (0 : Int32), .ref 215]) (M' := M0) rfl ?_
  obtain ⟨M6, hM6, h⟩ := o_wr h
  refine ev_pf kc_316 rfl rfl rfl rfl (fun hc => absurd hc (by decide)) hM6 ?_
  refine ev_go kc_316 6 (i' := 9) (L' := [some (.ref 215), some (.int (-1 : Int32)), some (.int (-1 : Int32)), some (.int (0 : Int32)), none]) (st' := []) (M' := M6) rfl ?_
  exact Ev.forget (mLe.kp (mLe.kp (mLe.kp (mLe.kp (mLe.sk mLe.nl))))) (e_X12_dearest_l9  h hk)
/-- WakeTowerModel.firstHas(II)I: 317, P -/
theorem kc_317 : mKc 317 = k_X12_firstHas := rfl
def f_X12_firstHas (p0 : Int32) (p1 : Int32) : Int32 :=
  bif decide (¬ p0 = (1 : Int32)) then (bif decide (¬ p1 = (1 : Int32)) then ((-2 : Int32)) else ((3 : Int32))) else ((1 : Int32))
set_option maxRecDepth 8000 in
theorem c_X12_firstHas {p0 : Int32} {p1 : Int32} {M0 : mM} : Cs (0) 317 [.int p0, .int p1] M0 (emR eI M0 (f_X12_firstHas p0 p1)) := by
  generalize h : f_X12_firstHas p0 p1 = out
  generalize hk : emR eI M0 out = R
  replace hk := hk.symm
  unfold f_X12_firstHas at h
  show Ev (0) 317 0 [some (.int p0), some (.int p1)] [] M0 R
  rcases o_bif h with ⟨hb1, h⟩ | ⟨hb1, h⟩
  · refine ev_goT kc_317 3 (t := 5) (e := 3) (L' := [some (.int p0), some (.int p1)]) (st' := []) rfl hb1 ?_
    rcases o_bif h with ⟨hb2, h⟩ | ⟨hb2, h⟩
    · refine ev_goT kc_317 3 (t := 10) (e := 8) (L' := [some (.int p0), some (.int p1)]) (st' := []) rfl hb2 ?_
      refine ev_go kc_317 1 (i' := 11) (L' := [some (.int p0), some (.int p1)]) (st' := [.int (-2 : Int32)]) (M' := M0) rfl ?_
      subst h
      rw [hk]
      exact ev_ret kc_317 rfl rfl rfl
    · refine ev_goF kc_317 3 (t := 10) (e := 8) (L' := [some (.int p0), some (.int p1)]) (st' := []) rfl hb2 ?_
      refine ev_go kc_317 2 (i' := 11) (L' := [some (.int p0), some (.int p1)]) (st' := [.int (3 : Int32)]) (M' := M0) rfl ?_
      subst h
      rw [hk]
      exact ev_ret kc_317 rfl rfl rfl
  · refine ev_goF kc_317 3 (t := 5) (e := 3) (L' := [some (.int p0), some (.int p1)]) (st' := []) rfl hb1 ?_
    refine ev_go kc_317 2 (i' := 11) (L' := [some (.int p0), some (.int p1)]) (st' := [.int (1 : Int32)]) (M' := M0) rfl ?_
    subst h
    rw [hk]
    exact ev_ret kc_317 rfl rfl rfl
/-- WakeTowerModel.otherHas(III)I: 318, P -/
theorem kc_318 : mKc 318 = k_X12_otherHas := rfl
def f_X12_otherHas (p0 : Int32) (p1 : Int32) (p2 : Int32) : Int32 :=
  bif decide (¬ p1 = (1 : Int32)) then ((((2 : Int32) * ((1 : Int32) - p2)) - p0)) else ((p2 - (1 : Int32)))
set_option maxRecDepth 8000 in
theorem c_X12_otherHas {p0 : Int32} {p1 : Int32} {p2 : Int32} {M0 : mM} : Cs (0) 318 [.int p0, .int p1, .int p2] M0 (emR eI M0 (f_X12_otherHas p0 p1 p2)) := by
  generalize h : f_X12_otherHas p0 p1 p2 = out
  generalize hk : emR eI M0 out = R
  replace hk := hk.symm
  unfold f_X12_otherHas at h
  show Ev (0) 318 0 [some (.int p0), some (.int p1), some (.int p2)] [] M0 R
  rcases o_bif h with ⟨hb1, h⟩ | ⟨hb1, h⟩
  · refine ev_goT kc_318 3 (t := 7) (e := 3) (L' := [some (.int p0), some (.int p1), some (.int p2)]) (st' := []) rfl hb1 ?_
    refine ev_go kc_318 7 (i' := 14) (L' := [some (.int p0), some (.int p1), some (.int p2)]) (st' := [.int (((2 : Int32) * ((1 : Int32) - p2)) - p0)]) (M' := M0) rfl ?_
    subst h
    rw [hk]
    exact ev_ret kc_318 rfl rfl rfl
  · refine ev_goF kc_318 3 (t := 7) (e := 3) (L' := [some (.int p0), some (.int p1), some (.int p2)]) (st' := []) rfl hb1 ?_
    refine ev_go kc_318 3 (i' := 6) (L' := [some (.int p0), some (.int p1), some (.int p2)]) (st' := [.int (p2 - (1 : Int32))]) (M' := M0) rfl ?_
    subst h
    rw [hk]
    exact ev_ret kc_318 rfl rfl rfl
/-- WakeTowerModel.rests(II)I: 319, W -/
theorem kc_319 : mKc 319 = k_X12_rests := rfl
def f_X12_rests_57 (l3 : Int32) (l4 : Int32) (l5 : Int32) (l6 : Int32) (M0 : mM) : Option (((Int32 × mM) ⊕ (Int32 × Int32)) ⊕ (Int32 × Int32)) :=
  bif decide ((2 : Int32) ≤ l6) then (some (.inl (.inr (l4, (l5 + (1 : Int32)))))) else (bif decide ((f_X12_firstHas l5 l6) < (f_X12_firstHas ((1 : Int32) - l5) l6)) then (some (.inr ((l4 ||| (0 : Int32)), (l6 + (1 : Int32))))) else (bif decide ((f_X12_otherHas l3 l5 l6) < (f_X12_otherHas l3 l5 ((1 : Int32) - l6))) then (some (.inr ((l4 ||| (0 : Int32)), (l6 + (1 : Int32))))) else (some (.inr ((l4 ||| ((1 : Int32) <<< ((((2 : Int32) * l5) + l6) &&& (31 : Int32)))), (l6 + (1 : Int32)))))))
set_option maxRecDepth 8000 in
theorem e_X12_rests_57 {l3 : Int32} {l4 : Int32} {l5 : Int32} {l6 : Int32} {M0 : mM} {R : mZ} {out : (((Int32 × mM) ⊕ (Int32 × Int32)) ⊕ (Int32 × Int32))}  (h : f_X12_rests_57 l3 l4 l5 l6 M0 = some out) (hk : (∀ s' : Int32 × Int32, out = .inr s' → Ev (8) 319 57 [none, none, none, some (.int l3), some (.int s'.1), some (.int l5), some (.int s'.2)] [] M0 R) ∧ (∀ e2 : ((Int32 × mM) ⊕ (Int32 × Int32)), out = .inl e2 → (∀ s' : Int32 × Int32, e2 = .inr s' → Ev (8) 319 52 [none, none, none, some (.int l3), some (.int s'.1), some (.int s'.2), none] [] M0 R) ∧ (∀ e1 : (Int32 × mM), e2 = .inl e1 → R = emW eI e1))) : Ev (8) 319 57 [none, none, none, some (.int l3), some (.int l4), some (.int l5), some (.int l6)] [] M0 R := by
  unfold f_X12_rests_57 at h
  rcases o_bif h with ⟨hb1, h⟩ | ⟨hb1, h⟩
  · refine ev_goT kc_319 3 (t := 94) (e := 60) (L' := [none, none, none, some (.int l3), some (.int l4), some (.int l5), some (.int l6)]) (st' := []) rfl hb1 ?_
    refine ev_go kc_319 2 (i' := 52) (L' := [none, none, none, some (.int l3), some (.int l4), some (.int (l5 + (1 : Int32))), some (.int l6)]) (st' := []) (M' := M0) rfl ?_
    obtain rfl := Option.some.inj h
    exact Ev.forget (mLe.sk (mLe.sk (mLe.sk (mLe.kp (mLe.kp (mLe.kp (mLe.sk mLe.nl))))))) ((hk.2 _ rfl).1 (l4, (l5 + (1 : Int32))) rfl)
  · refine ev_goF kc_319 3 (t := 94) (e := 60) (L' := [none, none, none, some (.int l3), some (.int l4), some (.int l5), some (.int l6)]) (st' := []) rfl hb1 ?_
    refine ev_go kc_319 3 (i' := 63) (L' := [none, none, none, some (.int l3), some (.int l4), some (.int l5), some (.int l6)]) (st' := [.int l6, .int l5, .int l4]) (M' := M0) rfl ?_
    refine ev_cl0 (ins := .invokestatic 454) kc_319 rfl rfl (a := 317) (as := [.int l5, .int l6]) (rest := [.int l4]) rfl rfl (Cs.deep (c_X12_firstHas (M0 := M0)) (by decide)) ?_
    refine ev_go kc_319 4 (i' := 68) (L' := [none, none, none, some (.int l3), some (.int l4), some (.int l5), some (.int l6)]) (st' := [.int l6, .int ((1 : Int32) - l5), .int (f_X12_firstHas l5 l6), .int l4]) (M' := M0) rfl ?_
    refine ev_cl0 (ins := .invokestatic 454) kc_319 rfl rfl (a := 317) (as := [.int ((1 : Int32) - l5), .int l6]) (rest := [.int (f_X12_firstHas l5 l6), .int l4]) rfl rfl (Cs.deep (c_X12_firstHas (M0 := M0)) (by decide)) ?_
    rcases o_bif h with ⟨hb4, h⟩ | ⟨hb4, h⟩
    · refine ev_goT kc_319 1 (t := 89) (e := 70) (L' := [none, none, none, some (.int l3), some (.int l4), some (.int l5), some (.int l6)]) (st' := [.int l4]) rfl hb4 ?_
      refine ev_go kc_319 5 (i' := 57) (L' := [none, none, none, some (.int l3), some (.int (l4 ||| (0 : Int32))), some (.int l5), some (.int (l6 + (1 : Int32)))]) (st' := []) (M' := M0) rfl ?_
      obtain rfl := Option.some.inj h
      exact Ev.forget (mLe.sk (mLe.sk (mLe.sk (mLe.kp (mLe.kp (mLe.kp (mLe.kp mLe.nl))))))) (hk.1 ((l4 ||| (0 : Int32)), (l6 + (1 : Int32))) rfl)
    · refine ev_goF kc_319 1 (t := 89) (e := 70) (L' := [none, none, none, some (.int l3), some (.int l4), some (.int l5), some (.int l6)]) (st' := [.int l4]) rfl hb4 ?_
      refine ev_go kc_319 3 (i' := 73) (L' := [none, none, none, some (.int l3), some (.int l4), some (.int l5), some (.int l6)]) (st' := [.int l6, .int l5, .int l3, .int l4]) (M' := M0) rfl ?_
      refine ev_cl0 (ins := .invokestatic 457) kc_319 rfl rfl (a := 318) (as := [.int l3, .int l5, .int l6]) (rest := [.int l4]) rfl rfl (Cs.deep (c_X12_otherHas (M0 := M0)) (by decide)) ?_
      refine ev_go kc_319 5 (i' := 79) (L' := [none, none, none, some (.int l3), some (.int l4), some (.int l5), some (.int l6)]) (st' := [.int ((1 : Int32) - l6), .int l5, .int l3, .int (f_X12_otherHas l3 l5 l6), .int l4]) (M' := M0) rfl ?_
      refine ev_cl0 (ins := .invokestatic 457) kc_319 rfl rfl (a := 318) (as := [.int l3, .int l5, .int ((1 : Int32) - l6)]) (rest := [.int (f_X12_otherHas l3 l5 l6), .int l4]) rfl rfl (Cs.deep (c_X12_otherHas (M0 := M0)) (by decide)) ?_
      rcases o_bif h with ⟨hb7, h⟩ | ⟨hb7, h⟩
      · refine ev_goT kc_319 1 (t := 89) (e := 81) (L' := [none, none, none, some (.int l3), some (.int l4), some (.int l5), some (.int l6)]) (st' := [.int l4]) rfl hb7 ?_
        refine ev_go kc_319 5 (i' := 57) (L' := [none, none, none, some (.int l3), some (.int (l4 ||| (0 : Int32))), some (.int l5), some (.int (l6 + (1 : Int32)))]) (st' := []) (M' := M0) rfl ?_
        obtain rfl := Option.some.inj h
        exact Ev.forget (mLe.sk (mLe.sk (mLe.sk (mLe.kp (mLe.kp (mLe.kp (mLe.kp mLe.nl))))))) (hk.1 ((l4 ||| (0 : Int32)), (l6 + (1 : Int32))) rfl)
      · refine ev_goF kc_319 1 (t := 89) (e := 81) (L' := [none, none, none, some (.int l3), some (.int l4), some (.int l5), some (.int l6)]) (st' := [.int l4]) rfl hb7 ?_
        refine ev_go kc_319 12 (i' := 57) (L' := [none, none, none, some (.int l3), some (.int (l4 ||| ((1 : Int32) <<< ((((2 : Int32) * l5) + l6) &&& (31 : Int32))))), some (.int l5), some (.int (l6 + (1 : Int32)))]) (st' := []) (M' := M0) rfl ?_
        obtain rfl := Option.some.inj h
        exact Ev.forget (mLe.sk (mLe.sk (mLe.sk (mLe.kp (mLe.kp (mLe.kp (mLe.kp mLe.nl))))))) (hk.1 ((l4 ||| ((1 : Int32) <<< ((((2 : Int32) * l5) + l6) &&& (31 : Int32)))), (l6 + (1 : Int32))) rfl)
def f_X12_rests_l57 (l3 : Int32) (l5 : Int32) (l4 : Int32) (l6 : Int32) (M0 : mM) : Option ((Int32 × mM) ⊕ (Int32 × Int32)) :=
  wh 100000 (fun s : Int32 × Int32 => f_X12_rests_57 l3 s.1 l5 s.2 M0) (l4, l6)
theorem e_X12_rests_l57 {l3 : Int32} {l4 : Int32} {l5 : Int32} {l6 : Int32} {M0 : mM} {R : mZ} {out : ((Int32 × mM) ⊕ (Int32 × Int32))}  (h : f_X12_rests_l57 l3 l5 l4 l6 M0 = some out) (hk : (∀ s' : Int32 × Int32, out = .inr s' → Ev (8) 319 52 [none, none, none, some (.int l3), some (.int s'.1), some (.int s'.2), none] [] M0 R) ∧ (∀ e1 : (Int32 × mM), out = .inl e1 → R = emW eI e1)) : Ev (8) 319 57 [none, none, none, some (.int l3), some (.int l4), some (.int l5), some (.int l6)] [] M0 R := by
  unfold f_X12_rests_l57 at h
  exact wh_ev (P := fun s : Int32 × Int32 => Ev (8) 319 57 [none, none, none, some (.int l3), some (.int s.1), some (.int l5), some (.int s.2)] [] M0 R) (Q := fun e : ((Int32 × mM) ⊕ (Int32 × Int32)) => (∀ s' : Int32 × Int32, e = .inr s' → Ev (8) 319 52 [none, none, none, some (.int l3), some (.int s'.1), some (.int s'.2), none] [] M0 R) ∧ (∀ e1 : (Int32 × mM), e = .inl e1 → R = emW eI e1)) (fun s o hb h1 h2 => e_X12_rests_57  hb ⟨h1, h2⟩) 100000 _ _ h hk
def f_X12_rests_52 (l3 : Int32) (l4 : Int32) (l5 : Int32) (M0 : mM) : Option ((Int32 × mM) ⊕ (Int32 × Int32)) :=
  bif decide ((2 : Int32) ≤ l5) then (some (.inl (l4, M0))) else (f_X12_rests_l57 l3 l5 l4 (0 : Int32) M0)
set_option maxRecDepth 8000 in
theorem e_X12_rests_52 {l3 : Int32} {l4 : Int32} {l5 : Int32} {M0 : mM} {R : mZ} {out : ((Int32 × mM) ⊕ (Int32 × Int32))}  (h : f_X12_rests_52 l3 l4 l5 M0 = some out) (hk : (∀ s' : Int32 × Int32, out = .inr s' → Ev (8) 319 52 [none, none, none, some (.int l3), some (.int s'.1), some (.int s'.2), none] [] M0 R) ∧ (∀ e1 : (Int32 × mM), out = .inl e1 → R = emW eI e1)) : Ev (8) 319 52 [none, none, none, some (.int l3), some (.int l4), some (.int l5), none] [] M0 R := by
  unfold f_X12_rests_52 at h
  rcases o_bif h with ⟨hb8, h⟩ | ⟨hb8, h⟩
  · refine ev_goT kc_319 3 (t := 96) (e := 55) (L' := [none, none, none, some (.int l3), some (.int l4), some (.int l5), none]) (st' := []) rfl hb8 ?_
    refine ev_go kc_319 1 (i' := 97) (L' := [none, none, none, some (.int l3), some (.int l4), some (.int l5), none]) (st' := [.int l4]) (M' := M0) rfl ?_
    obtain rfl := Option.some.inj h
    rw [show _ from (hk.2 _ rfl)]
    exact ev_ret kc_319 rfl rfl rfl
  · refine ev_goF kc_319 3 (t := 96) (e := 55) (L' := [none, none, none, some (.int l3), some (.int l4), some (.int l5), none]) (st' := []) rfl hb8 ?_
    refine ev_go kc_319 2 (i' := 57) (L' := [none, none, none, some (.int l3), some (.int l4), some (.int l5), some (.int (0 : Int32))]) (st' := []) (M' := M0) rfl ?_
    exact Ev.forget (mLe.sk (mLe.sk (mLe.sk (mLe.kp (mLe.kp (mLe.kp (mLe.kp mLe.nl))))))) (e_X12_rests_l57  h hk)
def f_X12_rests_l52 (l3 : Int32) (l4 : Int32) (l5 : Int32) (M0 : mM) : Option (Int32 × mM) :=
  wh 100000 (fun s : Int32 × Int32 => f_X12_rests_52 l3 s.1 s.2 M0) (l4, l5)
theorem e_X12_rests_l52 {l3 : Int32} {l4 : Int32} {l5 : Int32} {M0 : mM} {R : mZ} {out : (Int32 × mM)}  (h : f_X12_rests_l52 l3 l4 l5 M0 = some out) (hk : R = emW eI out) : Ev (8) 319 52 [none, none, none, some (.int l3), some (.int l4), some (.int l5), none] [] M0 R := by
  unfold f_X12_rests_l52 at h
  exact wh_ev (P := fun s : Int32 × Int32 => Ev (8) 319 52 [none, none, none, some (.int l3), some (.int s.1), some (.int s.2), none] [] M0 R) (Q := fun e : (Int32 × mM) => R = emW eI e) (fun s o hb h1 h2 => e_X12_rests_52  hb ⟨h1, h2⟩) 100000 _ _ h hk
def f_X12_rests_37 (l2 : Int32) (s1 : Bool) (M0 : mM) : Option (Int32 × mM) :=
  b2 (f_X12_throwsIf s1 (2 : Int32) M0) (fun v9 M9 => bif v9 then (some ((0 : Int32), M9)) else (b2 (f_X12_borneBy l2 M9) (fun v11 M11 => f_X12_rests_l52 (v11 / (10 : Int32)) (0 : Int32) (0 : Int32) M11)))
set_option maxRecDepth 8000 in
theorem e_X12_rests_37 {l2 : Int32} {s1 : Bool} {M0 : mM} {R : mZ} {out : (Int32 × mM)}  (h : f_X12_rests_37 l2 s1 M0 = some out) (hk : R = emW eI out) : Ev (8) 319 37 [some (.ref 215), none, some (.int l2), none, none, none, none] [.int (mB s1), .ref 215] M0 R := by
  unfold f_X12_rests_37 at h
  refine ev_go kc_319 1 (i' := 38) (L' := [some (.ref 215), none, some (.int l2), none, none, none, none]) (st' := [.int (2 : Int32), .int (mB s1), .ref 215]) (M' := M0) rfl ?_
  obtain ⟨v9, M9, hc9, h⟩ := o_b2 h
  refine ev_cl0 (ins := .invokevirtual 304) kc_319 rfl rfl (a := 181) (as := [.ref 215, .int (mB s1), .int (2 : Int32)]) (rest := []) rfl rfl (Cs.deep (c_X12_throwsIf hc9) (by decide)) ?_
  rcases o_bif h with ⟨hb10, h⟩ | ⟨hb10, h⟩
  · refine ev_goF kc_319 1 (t := 42) (e := 40) (L' := [some (.ref 215), none, some (.int l2), none, none, none, none]) (st' := []) rfl (mB_e0f hb10) ?_
    refine ev_go kc_319 1 (i' := 41) (L' := [some (.ref 215), none, some (.int l2), none, none, none, none]) (st' := [.int (0 : Int32)]) (M' := M9) rfl ?_
    obtain rfl := Option.some.inj h
    rw [hk]
    exact ev_ret kc_319 rfl rfl rfl
  · refine ev_goT kc_319 1 (t := 42) (e := 40) (L' := [some (.ref 215), none, some (.int l2), none, none, none, none]) (st' := []) rfl (mB_e0t hb10) ?_
    refine ev_go kc_319 2 (i' := 44) (L' := [some (.ref 215), none, some (.int l2), none, none, none, none]) (st' := [.int l2, .ref 215]) (M' := M9) rfl ?_
    obtain ⟨v11, M11, hc11, h⟩ := o_b2 h
    refine ev_cl0 (ins := .invokevirtual 323) kc_319 rfl rfl (a := 205) (as := [.ref 215, .int l2]) (rest := []) rfl rfl (Cs.deep (c_X12_borneBy hc11) (by decide)) ?_
    refine ev_go kc_319 7 (i' := 52) (L' := [some (.ref 215), none, some (.int l2), some (.int (v11 / (10 : Int32))), some (.int (0 : Int32)), some (.int (0 : Int32)), none]) (st' := []) (M' := M11) rfl ?_
    exact Ev.forget (mLe.sk (mLe.sk (mLe.sk (mLe.kp (mLe.kp (mLe.kp (mLe.sk mLe.nl))))))) (e_X12_rests_l52  h hk)
def f_X12_rests_34 (l2 : Int32) (M0 : mM) : Option (Int32 × mM) :=
  f_X12_rests_37 l2 true M0
set_option maxRecDepth 8000 in
theorem e_X12_rests_34 {l2 : Int32} {M0 : mM} {R : mZ} {out : (Int32 × mM)}  (h : f_X12_rests_34 l2 M0 = some out) (hk : R = emW eI out) : Ev (8) 319 34 [some (.ref 215), none, some (.int l2), none, none, none, none] [.ref 215] M0 R := by
  unfold f_X12_rests_34 at h
  refine ev_go kc_319 2 (i' := 37) (L' := [some (.ref 215), none, some (.int l2), none, none, none, none]) (st' := [.int (1 : Int32), .ref 215]) (M' := M0) rfl ?_
  exact Ev.forget (mLe.kp (mLe.sk (mLe.kp (mLe.sk (mLe.sk (mLe.sk (mLe.sk mLe.nl))))))) (e_X12_rests_37  h hk)
def f_X12_rests_15 (l1 : Int32) (l2 : Int32) (s1 : Bool) (M0 : mM) : Option (Int32 × mM) :=
  b2 (f_X12_throwsIf s1 (1 : Int32) M0) (fun v12 M12 => bif v12 then (some ((0 : Int32), M12)) else (b1 (f_X12_holds l1 M12) (fun v14 => bif v14 then (b1 (f_X12_holds l2 M12) (fun v16 => bif v16 then (b1 (f_X12_of l1 (6 : Int32) M12) (fun v18 => bif (f_X12_has v18 l2) then (f_X12_rests_37 l2 false M12) else (f_X12_rests_34 l2 M12))) else (f_X12_rests_34 l2 M12))) else (f_X12_rests_34 l2 M12))))
set_option maxRecDepth 8000 in
theorem e_X12_rests_15 {l1 : Int32} {l2 : Int32} {s1 : Bool} {M0 : mM} {R : mZ} {out : (Int32 × mM)}  (h : f_X12_rests_15 l1 l2 s1 M0 = some out) (hk : R = emW eI out) : Ev (8) 319 15 [some (.ref 215), some (.int l1), some (.int l2), none, none, none, none] [.int (mB s1), .ref 215] M0 R := by
  unfold f_X12_rests_15 at h
  refine ev_go kc_319 1 (i' := 16) (L' := [some (.ref 215), some (.int l1), some (.int l2), none, none, none, none]) (st' := [.int (1 : Int32), .int (mB s1), .ref 215]) (M' := M0) rfl ?_
  obtain ⟨v12, M12, hc12, h⟩ := o_b2 h
  refine ev_cl0 (ins := .invokevirtual 304) kc_319 rfl rfl (a := 181) (as := [.ref 215, .int (mB s1), .int (1 : Int32)]) (rest := []) rfl rfl (Cs.deep (c_X12_throwsIf hc12) (by decide)) ?_
  rcases o_bif h with ⟨hb13, h⟩ | ⟨hb13, h⟩
  · refine ev_goT kc_319 1 (t := 40) (e := 18) (L' := [some (.ref 215), some (.int l1), some (.int l2), none, none, none, none]) (st' := []) rfl (mB_n0t hb13) ?_
    refine ev_go kc_319 1 (i' := 41) (L' := [some (.ref 215), some (.int l1), some (.int l2), none, none, none, none]) (st' := [.int (0 : Int32)]) (M' := M12) rfl ?_
    obtain rfl := Option.some.inj h
    rw [hk]
    exact ev_ret kc_319 rfl rfl rfl
  · refine ev_goF kc_319 1 (t := 40) (e := 18) (L' := [some (.ref 215), some (.int l1), some (.int l2), none, none, none, none]) (st' := []) rfl (mB_n0f hb13) ?_
    refine ev_go kc_319 3 (i' := 21) (L' := [some (.ref 215), some (.int l1), some (.int l2), none, none, none, none]) (st' := [.int l1, .ref 215, .ref 215]) (M' := M12) rfl ?_
    obtain ⟨v14, hc14, h⟩ := o_b1 h
    refine ev_cl0 (ins := .invokevirtual 89) kc_319 rfl rfl (a := 196) (as := [.ref 215, .int l1]) (rest := [.ref 215]) rfl rfl (Cs.deep (c_X12_holds (M0 := M12) hc14) (by decide)) ?_
    rcases o_bif h with ⟨hb15, h⟩ | ⟨hb15, h⟩
    · refine ev_goF kc_319 1 (t := 34) (e := 23) (L' := [some (.ref 215), some (.int l1), some (.int l2), none, none, none, none]) (st' := [.ref 215]) rfl (mB_e0f hb15) ?_
      refine ev_go kc_319 2 (i' := 25) (L' := [some (.ref 215), some (.int l1), some (.int l2), none, none, none, none]) (st' := [.int l2, .ref 215, .ref 215]) (M' := M12) rfl ?_
      obtain ⟨v16, hc16, h⟩ := o_b1 h
      refine ev_cl0 (ins := .invokevirtual 89) kc_319 rfl rfl (a := 196) (as := [.ref 215, .int l2]) (rest := [.ref 215]) rfl rfl (Cs.deep (c_X12_holds (M0 := M12) hc16) (by decide)) ?_
      rcases o_bif h with ⟨hb17, h⟩ | ⟨hb17, h⟩
      · refine ev_goF kc_319 1 (t := 34) (e := 27) (L' := [some (.ref 215), some (.int l1), some (.int l2), none, none, none, none]) (st' := [.ref 215]) rfl (mB_e0f hb17) ?_
        refine ev_go kc_319 3 (i' := 30) (L' := [some (.ref 215), some (.int l1), some (.int l2), none, none, none, none]) (st' := [.int (6 : Int32), .int l1, .ref 215, .ref 215]) (M' := M12) rfl ?_
        obtain ⟨v18, hc18, h⟩ := o_b1 h
        refine ev_cl0 (ins := .invokevirtual 79) kc_319 rfl rfl (a := 193) (as := [.ref 215, .int l1, .int (6 : Int32)]) (rest := [.ref 215]) rfl rfl (Cs.deep (c_X12_of (M0 := M12) hc18) (by decide)) ?_
        refine ev_go kc_319 1 (i' := 32) (L' := [some (.ref 215), some (.int l1), some (.int l2), none, none, none, none]) (st' := [.int l2, .int v18, .ref 215]) (M' := M12) rfl ?_
        refine ev_cl0 (ins := .invokestatic 106) kc_319 rfl rfl (a := 183) (as := [.int v18, .int l2]) (rest := [.ref 215]) rfl rfl (Cs.deep (c_X12_has (M0 := M12)) (by decide)) ?_
        rcases o_bif h with ⟨hb20, h⟩ | ⟨hb20, h⟩
        · refine ev_goT kc_319 1 (t := 36) (e := 34) (L' := [some (.ref 215), some (.int l1), some (.int l2), none, none, none, none]) (st' := [.ref 215]) rfl (mB_n0t hb20) ?_
          refine ev_go kc_319 1 (i' := 37) (L' := [some (.ref 215), some (.int l1), some (.int l2), none, none, none, none]) (st' := [.int (0 : Int32), .ref 215]) (M' := M12) rfl ?_
          exact Ev.forget (mLe.kp (mLe.sk (mLe.kp (mLe.sk (mLe.sk (mLe.sk (mLe.sk mLe.nl))))))) (e_X12_rests_37  h hk)
        · refine ev_goF kc_319 1 (t := 36) (e := 34) (L' := [some (.ref 215), some (.int l1), some (.int l2), none, none, none, none]) (st' := [.ref 215]) rfl (mB_n0f hb20) ?_
          exact Ev.forget (mLe.kp (mLe.sk (mLe.kp (mLe.sk (mLe.sk (mLe.sk (mLe.sk mLe.nl))))))) (e_X12_rests_34  h hk)
      · refine ev_goT kc_319 1 (t := 34) (e := 27) (L' := [some (.ref 215), some (.int l1), some (.int l2), none, none, none, none]) (st' := [.ref 215]) rfl (mB_e0t hb17) ?_
        exact Ev.forget (mLe.kp (mLe.sk (mLe.kp (mLe.sk (mLe.sk (mLe.sk (mLe.sk mLe.nl))))))) (e_X12_rests_34  h hk)
    · refine ev_goT kc_319 1 (t := 34) (e := 23) (L' := [some (.ref 215), some (.int l1), some (.int l2), none, none, none, none]) (st' := [.ref 215]) rfl (mB_e0t hb15) ?_
      exact Ev.forget (mLe.kp (mLe.sk (mLe.kp (mLe.sk (mLe.sk (mLe.sk (mLe.sk mLe.nl))))))) (e_X12_rests_34  h hk)
def f_X12_rests_12 (l1 : Int32) (l2 : Int32) (M0 : mM) : Option (Int32 × mM) :=
  f_X12_rests_15 l1 l2 true M0
set_option maxRecDepth 8000 in
theorem e_X12_rests_12 {l1 : Int32} {l2 : Int32} {M0 : mM} {R : mZ} {out : (Int32 × mM)}  (h : f_X12_rests_12 l1 l2 M0 = some out) (hk : R = emW eI out) : Ev (8) 319 12 [some (.ref 215), some (.int l1), some (.int l2), none, none, none, none] [.ref 215] M0 R := by
  unfold f_X12_rests_12 at h
  refine ev_go kc_319 2 (i' := 15) (L' := [some (.ref 215), some (.int l1), some (.int l2), none, none, none, none]) (st' := [.int (1 : Int32), .ref 215]) (M' := M0) rfl ?_
  exact Ev.forget (mLe.kp (mLe.kp (mLe.kp (mLe.sk (mLe.sk (mLe.sk (mLe.sk mLe.nl))))))) (e_X12_rests_15  h hk)
def f_X12_rests (p1 : Int32) (p2 : Int32) (M0 : mM) : Option (Int32 × mM) :=
  wr (mst M0 215 0 (0 : Int32)) (fun M21 => b1 (f_X12_nobody p1 M21) (fun v22 => bif v22 then (f_X12_rests_12 p1 p2 M21) else (b1 (f_X12_nobody p2 M21) (fun v24 => bif v24 then (f_X12_rests_12 p1 p2 M21) else (f_X12_rests_15 p1 p2 false M21)))))
set_option maxRecDepth 8000 in
theorem c_X12_rests {p1 : Int32} {p2 : Int32} {M0 : mM} {out : (Int32 × mM)} (h : f_X12_rests p1 p2 M0 = some out) : Cs (8) 319 [.ref 215, .int p1, .int p2] M0 (emW eI out) := by
  generalize hk : emW eI out = R
  replace hk := hk.symm
  unfold f_X12_rests at h
  show Ev (8) 319 0 [some (.ref 215), some (.int p1), some (.int p2), none, none, none, none] [] M0 R
  refine ev_go kc_319 2 (i' := 2) (L' := [some (.ref 215), some (.int p1), some (.int p2), none, none, none, none]) (st' := [.int (0 : Int32), .ref 215]) (M' := M0) rfl ?_
  obtain ⟨M21, hM21, h⟩ := o_wr h
  refine ev_pf kc_319 rfl rfl rfl rfl (fun hc => absurd hc (by decide)) hM21 ?_
  refine ev_go kc_319 3 (i' := 6) (L' := [some (.ref 215), some (.int p1), some (.int p2), none, none, none, none]) (st' := [.int p1, .ref 215, .ref 215]) (M' := M21) rfl ?_
  obtain ⟨v22, hc22, h⟩ := o_b1 h
  refine ev_cl0 (ins := .invokevirtual 329) kc_319 rfl rfl (a := 201) (as := [.ref 215, .int p1]) (rest := [.ref 215]) rfl rfl (Cs.deep (c_X12_nobody (M0 := M21) hc22) (by decide)) ?_
  rcases o_bif h with ⟨hb23, h⟩ | ⟨hb23, h⟩
  · refine ev_goT kc_319 1 (t := 12) (e := 8) (L' := [some (.ref 215), some (.int p1), some (.int p2), none, none, none, none]) (st' := [.ref 215]) rfl (mB_n0t hb23) ?_
    exact Ev.forget (mLe.kp (mLe.kp (mLe.kp (mLe.sk (mLe.sk (mLe.sk (mLe.sk mLe.nl))))))) (e_X12_rests_12  h hk)
  · refine ev_goF kc_319 1 (t := 12) (e := 8) (L' := [some (.ref 215), some (.int p1), some (.int p2), none, none, none, none]) (st' := [.ref 215]) rfl (mB_n0f hb23) ?_
    refine ev_go kc_319 2 (i' := 10) (L' := [some (.ref 215), some (.int p1), some (.int p2), none, none, none, none]) (st' := [.int p2, .ref 215, .ref 215]) (M' := M21) rfl ?_
    obtain ⟨v24, hc24, h⟩ := o_b1 h
    refine ev_cl0 (ins := .invokevirtual 329) kc_319 rfl rfl (a := 201) (as := [.ref 215, .int p2]) (rest := [.ref 215]) rfl rfl (Cs.deep (c_X12_nobody (M0 := M21) hc24) (by decide)) ?_
    rcases o_bif h with ⟨hb25, h⟩ | ⟨hb25, h⟩
    · refine ev_goF kc_319 1 (t := 14) (e := 12) (L' := [some (.ref 215), some (.int p1), some (.int p2), none, none, none, none]) (st' := [.ref 215]) rfl (mB_e0f hb25) ?_
      exact Ev.forget (mLe.kp (mLe.kp (mLe.kp (mLe.sk (mLe.sk (mLe.sk (mLe.sk mLe.nl))))))) (e_X12_rests_12  h hk)
    · refine ev_goT kc_319 1 (t := 14) (e := 12) (L' := [some (.ref 215), some (.int p1), some (.int p2), none, none, none, none]) (st' := [.ref 215]) rfl (mB_e0t hb25) ?_
      refine ev_go kc_319 1 (i' := 15) (L' := [some (.ref 215), some (.int p1), some (.int p2), none, none, none, none]) (st' := [.int (0 : Int32), .ref 215]) (M' := M21) rfl ?_
      exact Ev.forget (mLe.kp (mLe.kp (mLe.kp (mLe.sk (mLe.sk (mLe.sk (mLe.sk mLe.nl))))))) (e_X12_rests_15  h hk)
/-- WakeTowerModel.odds(II)I: 320, W -/
theorem kc_320 : mKc 320 = k_X12_odds := rfl
def f_X12_odds_37 (l2 : Int32) (l3 : Int32) (l4 : Int32) (l5 : Int32) (M0 : mM) : Option ((Int32 × mM) ⊕ (Int32 × Int32)) :=
  bif decide (l2 ≤ l5) then (some (.inl (l4, M0))) else (some (.inr (((l4 * l3) / (100 : Int32)), (l5 + (1 : Int32)))))
set_option maxRecDepth 8000 in
theorem e_X12_odds_37 {l2 : Int32} {l3 : Int32} {l4 : Int32} {l5 : Int32} {M0 : mM} {R : mZ} {out : ((Int32 × mM) ⊕ (Int32 × Int32))}  (h : f_X12_odds_37 l2 l3 l4 l5 M0 = some out) (hk : (∀ s' : Int32 × Int32, out = .inr s' → Ev (11) 320 37 [none, none, some (.int l2), some (.int l3), some (.int s'.1), some (.int s'.2)] [] M0 R) ∧ (∀ e1 : (Int32 × mM), out = .inl e1 → R = emW eI e1)) : Ev (11) 320 37 [none, none, some (.int l2), some (.int l3), some (.int l4), some (.int l5)] [] M0 R := by
  unfold f_X12_odds_37 at h
  rcases o_bif h with ⟨hb1, h⟩ | ⟨hb1, h⟩
  · refine ev_goT kc_320 3 (t := 48) (e := 40) (L' := [none, none, some (.int l2), some (.int l3), some (.int l4), some (.int l5)]) (st' := []) rfl hb1 ?_
    refine ev_go kc_320 1 (i' := 49) (L' := [none, none, some (.int l2), some (.int l3), some (.int l4), some (.int l5)]) (st' := [.int l4]) (M' := M0) rfl ?_
    obtain rfl := Option.some.inj h
    rw [show _ from (hk.2 _ rfl)]
    exact ev_ret kc_320 rfl rfl rfl
  · refine ev_goF kc_320 3 (t := 48) (e := 40) (L' := [none, none, some (.int l2), some (.int l3), some (.int l4), some (.int l5)]) (st' := []) rfl hb1 ?_
    refine ev_go kc_320 8 (i' := 37) (L' := [none, none, some (.int l2), some (.int l3), some (.int ((l4 * l3) / (100 : Int32))), some (.int (l5 + (1 : Int32)))]) (st' := []) (M' := M0) rfl ?_
    obtain rfl := Option.some.inj h
    exact Ev.forget (mLe.sk (mLe.sk (mLe.kp (mLe.kp (mLe.kp (mLe.kp mLe.nl)))))) (hk.1 (((l4 * l3) / (100 : Int32)), (l5 + (1 : Int32))) rfl)
def f_X12_odds_l37 (l2 : Int32) (l3 : Int32) (l4 : Int32) (l5 : Int32) (M0 : mM) : Option (Int32 × mM) :=
  wh 100000 (fun s : Int32 × Int32 => f_X12_odds_37 l2 l3 s.1 s.2 M0) (l4, l5)
theorem e_X12_odds_l37 {l2 : Int32} {l3 : Int32} {l4 : Int32} {l5 : Int32} {M0 : mM} {R : mZ} {out : (Int32 × mM)}  (h : f_X12_odds_l37 l2 l3 l4 l5 M0 = some out) (hk : R = emW eI out) : Ev (11) 320 37 [none, none, some (.int l2), some (.int l3), some (.int l4), some (.int l5)] [] M0 R := by
  unfold f_X12_odds_l37 at h
  exact wh_ev (P := fun s : Int32 × Int32 => Ev (11) 320 37 [none, none, some (.int l2), some (.int l3), some (.int s.1), some (.int s.2)] [] M0 R) (Q := fun e : (Int32 × mM) => R = emW eI e) (fun s o hb h1 h2 => e_X12_odds_37  hb ⟨h1, h2⟩) 100000 _ _ h hk
def f_X12_odds_19 (l1 : Int32) (l2 : Int32) (s1 : Bool) (M0 : mM) : Option (Int32 × mM) :=
  b2 (f_X12_throwsIf s1 (2 : Int32) M0) (fun v2 M2 => bif v2 then (some ((0 : Int32), M2)) else (b2 (f_X12_byLaw (2 : Int32) l1 M2) (fun v4 M4 => f_X12_odds_l37 l2 ((100 : Int32) - (mMin (100 : Int32) v4)) (10000 : Int32) (0 : Int32) M4)))
set_option maxRecDepth 8000 in
theorem e_X12_odds_19 {l1 : Int32} {l2 : Int32} {s1 : Bool} {M0 : mM} {R : mZ} {out : (Int32 × mM)}  (h : f_X12_odds_19 l1 l2 s1 M0 = some out) (hk : R = emW eI out) : Ev (11) 320 19 [some (.ref 215), some (.int l1), some (.int l2), none, none, none] [.int (mB s1), .ref 215] M0 R := by
  unfold f_X12_odds_19 at h
  refine ev_go kc_320 1 (i' := 20) (L' := [some (.ref 215), some (.int l1), some (.int l2), none, none, none]) (st' := [.int (2 : Int32), .int (mB s1), .ref 215]) (M' := M0) rfl ?_
  obtain ⟨v2, M2, hc2, h⟩ := o_b2 h
  refine ev_cl0 (ins := .invokevirtual 304) kc_320 rfl rfl (a := 181) (as := [.ref 215, .int (mB s1), .int (2 : Int32)]) (rest := []) rfl rfl (Cs.deep (c_X12_throwsIf hc2) (by decide)) ?_
  rcases o_bif h with ⟨hb3, h⟩ | ⟨hb3, h⟩
  · refine ev_goF kc_320 1 (t := 24) (e := 22) (L' := [some (.ref 215), some (.int l1), some (.int l2), none, none, none]) (st' := []) rfl (mB_e0f hb3) ?_
    refine ev_go kc_320 1 (i' := 23) (L' := [some (.ref 215), some (.int l1), some (.int l2), none, none, none]) (st' := [.int (0 : Int32)]) (M' := M2) rfl ?_
    obtain rfl := Option.some.inj h
    rw [hk]
    exact ev_ret kc_320 rfl rfl rfl
  · refine ev_goT kc_320 1 (t := 24) (e := 22) (L' := [some (.ref 215), some (.int l1), some (.int l2), none, none, none]) (st' := []) rfl (mB_e0t hb3) ?_
    refine ev_go kc_320 5 (i' := 29) (L' := [some (.ref 215), some (.int l1), some (.int l2), none, none, none]) (st' := [.int l1, .int (2 : Int32), .ref 215, .int (100 : Int32), .int (100 : Int32)]) (M' := M2) rfl ?_
    obtain ⟨v4, M4, hc4, h⟩ := o_b2 h
    refine ev_cl0 (ins := .invokevirtual 332) kc_320 rfl rfl (a := 250) (as := [.ref 215, .int (2 : Int32), .int l1]) (rest := [.int (100 : Int32), .int (100 : Int32)]) rfl rfl (Cs.deep (c_X12_byLaw hc4) (by decide)) ?_
    refine ev_pm kc_320 rfl rfl rfl rfl (as := [.int (100 : Int32), .int v4]) (rest := [.int (100 : Int32)]) rfl rfl rfl (v := some (mMin (100 : Int32) v4)) rfl ?_
    refine ev_go kc_320 6 (i' := 37) (L' := [some (.ref 215), some (.int l1), some (.int l2), some (.int ((100 : Int32) - (mMin (100 : Int32) v4))), some (.int (10000 : Int32)), some (.int (0 : Int32))]) (st' := []) (M' := M4) rfl ?_
    exact Ev.forget (mLe.sk (mLe.sk (mLe.kp (mLe.kp (mLe.kp (mLe.kp mLe.nl)))))) (e_X12_odds_l37  h hk)
def f_X12_odds (p1 : Int32) (p2 : Int32) (M0 : mM) : Option (Int32 × mM) :=
  wr (mst M0 215 0 (0 : Int32)) (fun M5 => b1 (f_X12_nobody p1 M5) (fun v6 => b2 (f_X12_throwsIf v6 (1 : Int32) M5) (fun v7 M7 => bif v7 then (some ((0 : Int32), M7)) else (bif (f_X12_in p2 (0 : Int32) (4 : Int32)) then (f_X12_odds_19 p1 p2 false M7) else (f_X12_odds_19 p1 p2 true M7)))))
set_option maxRecDepth 8000 in
theorem c_X12_odds {p1 : Int32} {p2 : Int32} {M0 : mM} {out : (Int32 × mM)} (h : f_X12_odds p1 p2 M0 = some out) : Cs (11) 320 [.ref 215, .int p1, .int p2] M0 (emW eI out) := by
  generalize hk : emW eI out = R
  replace hk := hk.symm
  unfold f_X12_odds at h
  show Ev (11) 320 0 [some (.ref 215), some (.int p1), some (.int p2), none, none, none] [] M0 R
  refine ev_go kc_320 2 (i' := 2) (L' := [some (.ref 215), some (.int p1), some (.int p2), none, none, none]) (st' := [.int (0 : Int32), .ref 215]) (M' := M0) rfl ?_
  obtain ⟨M5, hM5, h⟩ := o_wr h
  refine ev_pf kc_320 rfl rfl rfl rfl (fun hc => absurd hc (by decide)) hM5 ?_
  refine ev_go kc_320 3 (i' := 6) (L' := [some (.ref 215), some (.int p1), some (.int p2), none, none, none]) (st' := [.int p1, .ref 215, .ref 215]) (M' := M5) rfl ?_
  obtain ⟨v6, hc6, h⟩ := o_b1 h
  refine ev_cl0 (ins := .invokevirtual 329) kc_320 rfl rfl (a := 201) (as := [.ref 215, .int p1]) (rest := [.ref 215]) rfl rfl (Cs.deep (c_X12_nobody (M0 := M5) hc6) (by decide)) ?_
  refine ev_go kc_320 1 (i' := 8) (L' := [some (.ref 215), some (.int p1), some (.int p2), none, none, none]) (st' := [.int (1 : Int32), .int (mB v6), .ref 215]) (M' := M5) rfl ?_
  obtain ⟨v7, M7, hc7, h⟩ := o_b2 h
  refine ev_cl0 (ins := .invokevirtual 304) kc_320 rfl rfl (a := 181) (as := [.ref 215, .int (mB v6), .int (1 : Int32)]) (rest := []) rfl rfl (Cs.deep (c_X12_throwsIf hc7) (by decide)) ?_
  rcases o_bif h with ⟨hb8, h⟩ | ⟨hb8, h⟩
  · refine ev_goT kc_320 1 (t := 22) (e := 10) (L' := [some (.ref 215), some (.int p1), some (.int p2), none, none, none]) (st' := []) rfl (mB_n0t hb8) ?_
    refine ev_go kc_320 1 (i' := 23) (L' := [some (.ref 215), some (.int p1), some (.int p2), none, none, none]) (st' := [.int (0 : Int32)]) (M' := M7) rfl ?_
    obtain rfl := Option.some.inj h
    rw [hk]
    exact ev_ret kc_320 rfl rfl rfl
  · refine ev_goF kc_320 1 (t := 22) (e := 10) (L' := [some (.ref 215), some (.int p1), some (.int p2), none, none, none]) (st' := []) rfl (mB_n0f hb8) ?_
    refine ev_go kc_320 4 (i' := 14) (L' := [some (.ref 215), some (.int p1), some (.int p2), none, none, none]) (st' := [.int (4 : Int32), .int (0 : Int32), .int p2, .ref 215]) (M' := M7) rfl ?_
    refine ev_cl0 (ins := .invokestatic 92) kc_320 rfl rfl (a := 182) (as := [.int p2, .int (0 : Int32), .int (4 : Int32)]) (rest := [.ref 215]) rfl rfl (Cs.deep (c_X12_in (M0 := M7)) (by decide)) ?_
    rcases o_bif h with ⟨hb10, h⟩ | ⟨hb10, h⟩
    · refine ev_goT kc_320 1 (t := 18) (e := 16) (L' := [some (.ref 215), some (.int p1), some (.int p2), none, none, none]) (st' := [.ref 215]) rfl (mB_n0t hb10) ?_
      refine ev_go kc_320 1 (i' := 19) (L' := [some (.ref 215), some (.int p1), some (.int p2), none, none, none]) (st' := [.int (0 : Int32), .ref 215]) (M' := M7) rfl ?_
      exact Ev.forget (mLe.kp (mLe.kp (mLe.kp (mLe.sk (mLe.sk (mLe.sk mLe.nl)))))) (e_X12_odds_19  h hk)
    · refine ev_goF kc_320 1 (t := 18) (e := 16) (L' := [some (.ref 215), some (.int p1), some (.int p2), none, none, none]) (st' := [.ref 215]) rfl (mB_n0f hb10) ?_
      refine ev_go kc_320 2 (i' := 19) (L' := [some (.ref 215), some (.int p1), some (.int p2), none, none, none]) (st' := [.int (1 : Int32), .ref 215]) (M' := M7) rfl ?_
      exact Ev.forget (mLe.kp (mLe.kp (mLe.kp (mLe.sk (mLe.sk (mLe.sk mLe.nl)))))) (e_X12_odds_19  h hk)
/-- WakeTowerModel.alone()I: 321, W -/
theorem kc_321 : mKc 321 = k_X12_alone := rfl
def f_X12_alone_7 (l1 : Int32) (l2 : Int32) (M0 : mM) : Option ((Int32 × mM) ⊕ (Int32 × Int32)) :=
  b1 (f_X12_people M0) (fun v1 => bif decide (v1 ≤ l2) then (some (.inl (l1, M0))) else (b1 (f_X12_of l2 (5 : Int32) M0) (fun v3 => bif decide (v3 ≤ 0) then (some (.inr ((l1 ||| (0 : Int32)), (l2 + (1 : Int32))))) else (b1 (f_X12_of l2 (6 : Int32) M0) (fun v5 => b1 (f_X12_holders M0) (fun v6 => bif decide (¬ (f_J6_bitCount_0f7a4 (v5 &&& v6)) = (1 : Int32)) then (some (.inr ((l1 ||| (0 : Int32)), (l2 + (1 : Int32))))) else (some (.inr ((l1 ||| ((1 : Int32) <<< (l2 &&& (31 : Int32)))), (l2 + (1 : Int32)))))))))))
set_option maxRecDepth 8000 in
theorem e_X12_alone_7 {l1 : Int32} {l2 : Int32} {M0 : mM} {R : mZ} {out : ((Int32 × mM) ⊕ (Int32 × Int32))}  (h : f_X12_alone_7 l1 l2 M0 = some out) (hk : (∀ s' : Int32 × Int32, out = .inr s' → Ev (5) 321 7 [some (.ref 215), some (.int s'.1), some (.int s'.2)] [] M0 R) ∧ (∀ e1 : (Int32 × mM), out = .inl e1 → R = emW eI e1)) : Ev (5) 321 7 [some (.ref 215), some (.int l1), some (.int l2)] [] M0 R := by
  unfold f_X12_alone_7 at h
  refine ev_go kc_321 2 (i' := 9) (L' := [some (.ref 215), some (.int l1), some (.int l2)]) (st' := [.ref 215, .int l2]) (M' := M0) rfl ?_
  obtain ⟨v1, hc1, h⟩ := o_b1 h
  refine ev_cl0 (ins := .invokevirtual 71) kc_321 rfl rfl (a := 190) (as := [.ref 215]) (rest := [.int l2]) rfl rfl (Cs.deep (c_X12_people (M0 := M0) hc1) (by decide)) ?_
  rcases o_bif h with ⟨hb2, h⟩ | ⟨hb2, h⟩
  · refine ev_goT kc_321 1 (t := 36) (e := 11) (L' := [some (.ref 215), some (.int l1), some (.int l2)]) (st' := []) rfl hb2 ?_
    refine ev_go kc_321 1 (i' := 37) (L' := [some (.ref 215), some (.int l1), some (.int l2)]) (st' := [.int l1]) (M' := M0) rfl ?_
    obtain rfl := Option.some.inj h
    rw [show _ from (hk.2 _ rfl)]
    exact ev_ret kc_321 rfl rfl rfl
  · refine ev_goF kc_321 1 (t := 36) (e := 11) (L' := [some (.ref 215), some (.int l1), some (.int l2)]) (st' := []) rfl hb2 ?_
    refine ev_go kc_321 4 (i' := 15) (L' := [some (.ref 215), some (.int l1), some (.int l2)]) (st' := [.int (5 : Int32), .int l2, .ref 215, .int l1]) (M' := M0) rfl ?_
    obtain ⟨v3, hc3, h⟩ := o_b1 h
    refine ev_cl0 (ins := .invokevirtual 79) kc_321 rfl rfl (a := 193) (as := [.ref 215, .int l2, .int (5 : Int32)]) (rest := [.int l1]) rfl rfl (Cs.deep (c_X12_of (M0 := M0) hc3) (by decide)) ?_
    rcases o_bif h with ⟨hb4, h⟩ | ⟨hb4, h⟩
    · refine ev_goT kc_321 1 (t := 31) (e := 17) (L' := [some (.ref 215), some (.int l1), some (.int l2)]) (st' := [.int l1]) rfl hb4 ?_
      refine ev_go kc_321 5 (i' := 7) (L' := [some (.ref 215), some (.int (l1 ||| (0 : Int32))), some (.int (l2 + (1 : Int32)))]) (st' := []) (M' := M0) rfl ?_
      obtain rfl := Option.some.inj h
      exact Ev.forget (mLe.kp (mLe.kp (mLe.kp mLe.nl))) (hk.1 ((l1 ||| (0 : Int32)), (l2 + (1 : Int32))) rfl)
    · refine ev_goF kc_321 1 (t := 31) (e := 17) (L' := [some (.ref 215), some (.int l1), some (.int l2)]) (st' := [.int l1]) rfl hb4 ?_
      refine ev_go kc_321 3 (i' := 20) (L' := [some (.ref 215), some (.int l1), some (.int l2)]) (st' := [.int (6 : Int32), .int l2, .ref 215, .int l1]) (M' := M0) rfl ?_
      obtain ⟨v5, hc5, h⟩ := o_b1 h
      refine ev_cl0 (ins := .invokevirtual 79) kc_321 rfl rfl (a := 193) (as := [.ref 215, .int l2, .int (6 : Int32)]) (rest := [.int l1]) rfl rfl (Cs.deep (c_X12_of (M0 := M0) hc5) (by decide)) ?_
      refine ev_go kc_321 1 (i' := 22) (L' := [some (.ref 215), some (.int l1), some (.int l2)]) (st' := [.ref 215, .int v5, .int l1]) (M' := M0) rfl ?_
      obtain ⟨v6, hc6, h⟩ := o_b1 h
      refine ev_cl0 (ins := .invokevirtual 97) kc_321 rfl rfl (a := 198) (as := [.ref 215]) (rest := [.int v5, .int l1]) rfl rfl (Cs.deep (c_X12_holders (M0 := M0) hc6) (by decide)) ?_
      refine ev_go kc_321 1 (i' := 24) (L' := [some (.ref 215), some (.int l1), some (.int l2)]) (st' := [.int (v5 &&& v6), .int l1]) (M' := M0) rfl ?_
      refine ev_cl0 (ins := .invokestatic 100) kc_321 rfl rfl (a := 10) (as := [.int (v5 &&& v6)]) (rest := [.int l1]) rfl rfl (Cs.deep (c_J6_bitCount_0f7a4 (M0 := M0)) (by decide)) ?_
      rcases o_bif h with ⟨hb8, h⟩ | ⟨hb8, h⟩
      · refine ev_goT kc_321 2 (t := 31) (e := 27) (L' := [some (.ref 215), some (.int l1), some (.int l2)]) (st' := [.int l1]) rfl hb8 ?_
        refine ev_go kc_321 5 (i' := 7) (L' := [some (.ref 215), some (.int (l1 ||| (0 : Int32))), some (.int (l2 + (1 : Int32)))]) (st' := []) (M' := M0) rfl ?_
        obtain rfl := Option.some.inj h
        exact Ev.forget (mLe.kp (mLe.kp (mLe.kp mLe.nl))) (hk.1 ((l1 ||| (0 : Int32)), (l2 + (1 : Int32))) rfl)
      · refine ev_goF kc_321 2 (t := 31) (e := 27) (L' := [some (.ref 215), some (.int l1), some (.int l2)]) (st' := [.int l1]) rfl hb8 ?_
        refine ev_go kc_321 8 (i' := 7) (L' := [some (.ref 215), some (.int (l1 ||| ((1 : Int32) <<< (l2 &&& (31 : Int32))))), some (.int (l2 + (1 : Int32)))]) (st' := []) (M' := M0) rfl ?_
        obtain rfl := Option.some.inj h
        exact Ev.forget (mLe.kp (mLe.kp (mLe.kp mLe.nl))) (hk.1 ((l1 ||| ((1 : Int32) <<< (l2 &&& (31 : Int32)))), (l2 + (1 : Int32))) rfl)
def f_X12_alone_l7 (l1 : Int32) (l2 : Int32) (M0 : mM) : Option (Int32 × mM) :=
  wh 100000 (fun s : Int32 × Int32 => f_X12_alone_7 s.1 s.2 M0) (l1, l2)
theorem e_X12_alone_l7 {l1 : Int32} {l2 : Int32} {M0 : mM} {R : mZ} {out : (Int32 × mM)}  (h : f_X12_alone_l7 l1 l2 M0 = some out) (hk : R = emW eI out) : Ev (5) 321 7 [some (.ref 215), some (.int l1), some (.int l2)] [] M0 R := by
  unfold f_X12_alone_l7 at h
  exact wh_ev (P := fun s : Int32 × Int32 => Ev (5) 321 7 [some (.ref 215), some (.int s.1), some (.int s.2)] [] M0 R) (Q := fun e : (Int32 × mM) => R = emW eI e) (fun s o hb h1 h2 => e_X12_alone_7  hb ⟨h1, h2⟩) 100000 _ _ h hk
def f_X12_alone  (M0 : mM) : Option (Int32 × mM) :=
  wr (mst M0 215 0 (0 : Int32)) (fun M9 => f_X12_alone_l7 (0 : Int32) (0 : Int32) M9)
set_option maxRecDepth 8000 in
theorem c_X12_alone  {M0 : mM} {out : (Int32 × mM)} (h : f_X12_alone M0 = some out) : Cs (5) 321 [.ref 215] M0 (emW eI out) := by
  generalize hk : emW eI out = R
  replace hk := hk.symm
  unfold f_X12_alone at h
  show Ev (5) 321 0 [some (.ref 215), none, none] [] M0 R
  refine ev_go kc_321 2 (i' := 2) (L' := [some (.ref 215), none, none]) (st' := [.int (0 : Int32), .ref 215]) (M' := M0) rfl ?_
  obtain ⟨M9, hM9, h⟩ := o_wr h
  refine ev_pf kc_321 rfl rfl rfl rfl (fun hc => absurd hc (by decide)) hM9 ?_
  refine ev_go kc_321 4 (i' := 7) (L' := [some (.ref 215), some (.int (0 : Int32)), some (.int (0 : Int32))]) (st' := []) (M' := M9) rfl ?_
  exact Ev.forget (mLe.kp (mLe.kp (mLe.kp mLe.nl))) (e_X12_alone_l7  h hk)
/-- WakeTowerModel.tired()I: 322, W -/
theorem kc_322 : mKc 322 = k_X12_tired := rfl
def f_X12_tired_22 (l2 : Int32) (l3 : Int32) (s0 : Int32) (M0 : mM) : Option ((Int32 × mM) ⊕ (Int32 × Int32 × Int32)) :=
  b1 (f_X12_of l3 (4 : Int32) M0) (fun v1 => some (.inr (s0, (mMax l2 v1), (l3 + (1 : Int32)))))
set_option maxRecDepth 8000 in
theorem e_X12_tired_22 {l2 : Int32} {l3 : Int32} {s0 : Int32} {M0 : mM} {R : mZ} {out : ((Int32 × mM) ⊕ (Int32 × Int32 × Int32))}  (h : f_X12_tired_22 l2 l3 s0 M0 = some out) (hk : (∀ s' : Int32 × Int32 × Int32, out = .inr s' → Ev (8) 322 9 [some (.ref 215), some (.int s'.1), some (.int s'.2.1), some (.int s'.2.2)] [] M0 R) ∧ (∀ e1 : (Int32 × mM), out = .inl e1 → R = emW eI e1)) : Ev (8) 322 22 [some (.ref 215), none, some (.int l2), some (.int l3)] [.int s0] M0 R := by
  unfold f_X12_tired_22 at h
  refine ev_go kc_322 5 (i' := 27) (L' := [some (.ref 215), some (.int s0), some (.int l2), some (.int l3)]) (st' := [.int (4 : Int32), .int l3, .ref 215, .int l2]) (M' := M0) rfl ?_
  obtain ⟨v1, hc1, h⟩ := o_b1 h
  refine ev_cl0 (ins := .invokevirtual 79) kc_322 rfl rfl (a := 193) (as := [.ref 215, .int l3, .int (4 : Int32)]) (rest := [.int l2]) rfl rfl (Cs.deep (c_X12_of (M0 := M0) hc1) (by decide)) ?_
  refine ev_pm kc_322 rfl rfl rfl rfl (as := [.int l2, .int v1]) (rest := []) rfl rfl rfl (v := some (mMax l2 v1)) rfl ?_
  refine ev_go kc_322 3 (i' := 9) (L' := [some (.ref 215), some (.int s0), some (.int (mMax l2 v1)), some (.int (l3 + (1 : Int32)))]) (st' := []) (M' := M0) rfl ?_
  obtain rfl := Option.some.inj h
  exact Ev.forget (mLe.kp (mLe.kp (mLe.kp (mLe.kp mLe.nl)))) (hk.1 (s0, (mMax l2 v1), (l3 + (1 : Int32))) rfl)
def f_X12_tired_9 (l1 : Int32) (l2 : Int32) (l3 : Int32) (M0 : mM) : Option ((Int32 × mM) ⊕ (Int32 × Int32 × Int32)) :=
  b1 (f_X12_people M0) (fun v2 => bif decide (v2 ≤ l3) then (some (.inl (l1, M0))) else (b1 (f_X12_of l3 (4 : Int32) M0) (fun v4 => bif decide (v4 ≤ l2) then (f_X12_tired_22 l2 l3 l1 M0) else (f_X12_tired_22 l2 l3 l3 M0))))
set_option maxRecDepth 8000 in
theorem e_X12_tired_9 {l1 : Int32} {l2 : Int32} {l3 : Int32} {M0 : mM} {R : mZ} {out : ((Int32 × mM) ⊕ (Int32 × Int32 × Int32))}  (h : f_X12_tired_9 l1 l2 l3 M0 = some out) (hk : (∀ s' : Int32 × Int32 × Int32, out = .inr s' → Ev (8) 322 9 [some (.ref 215), some (.int s'.1), some (.int s'.2.1), some (.int s'.2.2)] [] M0 R) ∧ (∀ e1 : (Int32 × mM), out = .inl e1 → R = emW eI e1)) : Ev (8) 322 9 [some (.ref 215), some (.int l1), some (.int l2), some (.int l3)] [] M0 R := by
  unfold f_X12_tired_9 at h
  refine ev_go kc_322 2 (i' := 11) (L' := [some (.ref 215), some (.int l1), some (.int l2), some (.int l3)]) (st' := [.ref 215, .int l3]) (M' := M0) rfl ?_
  obtain ⟨v2, hc2, h⟩ := o_b1 h
  refine ev_cl0 (ins := .invokevirtual 71) kc_322 rfl rfl (a := 190) (as := [.ref 215]) (rest := [.int l3]) rfl rfl (Cs.deep (c_X12_people (M0 := M0) hc2) (by decide)) ?_
  rcases o_bif h with ⟨hb3, h⟩ | ⟨hb3, h⟩
  · refine ev_goT kc_322 1 (t := 32) (e := 13) (L' := [some (.ref 215), some (.int l1), some (.int l2), some (.int l3)]) (st' := []) rfl hb3 ?_
    refine ev_go kc_322 1 (i' := 33) (L' := [some (.ref 215), some (.int l1), some (.int l2), some (.int l3)]) (st' := [.int l1]) (M' := M0) rfl ?_
    obtain rfl := Option.some.inj h
    rw [show _ from (hk.2 _ rfl)]
    exact ev_ret kc_322 rfl rfl rfl
  · refine ev_goF kc_322 1 (t := 32) (e := 13) (L' := [some (.ref 215), some (.int l1), some (.int l2), some (.int l3)]) (st' := []) rfl hb3 ?_
    refine ev_go kc_322 3 (i' := 16) (L' := [some (.ref 215), some (.int l1), some (.int l2), some (.int l3)]) (st' := [.int (4 : Int32), .int l3, .ref 215]) (M' := M0) rfl ?_
    obtain ⟨v4, hc4, h⟩ := o_b1 h
    refine ev_cl0 (ins := .invokevirtual 79) kc_322 rfl rfl (a := 193) (as := [.ref 215, .int l3, .int (4 : Int32)]) (rest := []) rfl rfl (Cs.deep (c_X12_of (M0 := M0) hc4) (by decide)) ?_
    rcases o_bif h with ⟨hb5, h⟩ | ⟨hb5, h⟩
    · refine ev_goT kc_322 2 (t := 21) (e := 19) (L' := [some (.ref 215), some (.int l1), some (.int l2), some (.int l3)]) (st' := []) rfl hb5 ?_
      refine ev_go kc_322 1 (i' := 22) (L' := [some (.ref 215), some (.int l1), some (.int l2), some (.int l3)]) (st' := [.int l1]) (M' := M0) rfl ?_
      exact Ev.forget (mLe.kp (mLe.sk (mLe.kp (mLe.kp mLe.nl)))) (e_X12_tired_22  h hk)
    · refine ev_goF kc_322 2 (t := 21) (e := 19) (L' := [some (.ref 215), some (.int l1), some (.int l2), some (.int l3)]) (st' := []) rfl hb5 ?_
      refine ev_go kc_322 2 (i' := 22) (L' := [some (.ref 215), some (.int l1), some (.int l2), some (.int l3)]) (st' := [.int l3]) (M' := M0) rfl ?_
      exact Ev.forget (mLe.kp (mLe.sk (mLe.kp (mLe.kp mLe.nl)))) (e_X12_tired_22  h hk)
def f_X12_tired_l9 (l1 : Int32) (l2 : Int32) (l3 : Int32) (M0 : mM) : Option (Int32 × mM) :=
  wh 100000 (fun s : Int32 × Int32 × Int32 => f_X12_tired_9 s.1 s.2.1 s.2.2 M0) (l1, l2, l3)
theorem e_X12_tired_l9 {l1 : Int32} {l2 : Int32} {l3 : Int32} {M0 : mM} {R : mZ} {out : (Int32 × mM)}  (h : f_X12_tired_l9 l1 l2 l3 M0 = some out) (hk : R = emW eI out) : Ev (8) 322 9 [some (.ref 215), some (.int l1), some (.int l2), some (.int l3)] [] M0 R := by
  unfold f_X12_tired_l9 at h
  exact wh_ev (P := fun s : Int32 × Int32 × Int32 => Ev (8) 322 9 [some (.ref 215), some (.int s.1), some (.int s.2.1), some (.int s.2.2)] [] M0 R) (Q := fun e : (Int32 × mM) => R = emW eI e) (fun s o hb h1 h2 => e_X12_tired_9  hb ⟨h1, h2⟩) 100000 _ _ h hk
def f_X12_tired  (M0 : mM) : Option (Int32 × mM) :=
  wr (mst M0 215 0 (0 : Int32)) (fun M6 => f_X12_tired_l9 (-1 : Int32) (0 : Int32) (0 : Int32) M6)
set_option maxRecDepth 8000 in
theorem c_X12_tired  {M0 : mM} {out : (Int32 × mM)} (h : f_X12_tired M0 = some out) : Cs (8) 322 [.ref 215] M0 (emW eI out) := by
  generalize hk : emW eI out = R
  replace hk := hk.symm
  unfold f_X12_tired at h
  show Ev (8) 322 0 [some (.ref 215), none, none, none] [] M0 R
  refine ev_go kc_322 2 (i' := 2) (L' := [some (.ref 215), none, none, none]) (st' := [.int (0 : Int32), .ref 215]) (M' := M0) rfl ?_
  obtain ⟨M6, hM6, h⟩ := o_wr h
  refine ev_pf kc_322 rfl rfl rfl rfl (fun hc => absurd hc (by decide)) hM6 ?_
  refine ev_go kc_322 6 (i' := 9) (L' := [some (.ref 215), some (.int (-1 : Int32)), some (.int (0 : Int32)), some (.int (0 : Int32))]) (st' := []) (M' := M6) rfl ?_
  exact Ev.forget (mLe.kp (mLe.kp (mLe.kp (mLe.kp mLe.nl)))) (e_X12_tired_l9  h hk)
/-- WakeTowerModel.twins()I: 323, W -/
theorem kc_323 : mKc 323 = k_X12_twins := rfl
def f_X12_twins_13 (l1 : Int32) (l2 : Int32) (l3 : Int32) (M0 : mM) : Option (((Int32 × mM) ⊕ (Int32 × Int32)) ⊕ (Int32 × Int32)) :=
  bif decide (l2 ≤ l3) then (some (.inl (.inr (l1, (l2 + (1 : Int32)))))) else (b1 (f_X12_of l2 (0 : Int32) M0) (fun v2 => b1 (f_X12_of l3 (0 : Int32) M0) (fun v3 => bif decide (¬ v2 = v3) then (some (.inr ((l1 + (0 : Int32)), (l3 + (1 : Int32))))) else (b1 (f_X12_of l2 (1 : Int32) M0) (fun v5 => b1 (f_X12_of l3 (1 : Int32) M0) (fun v6 => bif decide (¬ v5 = v6) then (some (.inr ((l1 + (0 : Int32)), (l3 + (1 : Int32))))) else (some (.inr ((l1 + (1 : Int32)), (l3 + (1 : Int32)))))))))))
set_option maxRecDepth 8000 in
theorem e_X12_twins_13 {l1 : Int32} {l2 : Int32} {l3 : Int32} {M0 : mM} {R : mZ} {out : (((Int32 × mM) ⊕ (Int32 × Int32)) ⊕ (Int32 × Int32))}  (h : f_X12_twins_13 l1 l2 l3 M0 = some out) (hk : (∀ s' : Int32 × Int32, out = .inr s' → Ev (2) 323 13 [some (.ref 215), some (.int s'.1), some (.int l2), some (.int s'.2)] [] M0 R) ∧ (∀ e2 : ((Int32 × mM) ⊕ (Int32 × Int32)), out = .inl e2 → (∀ s' : Int32 × Int32, e2 = .inr s' → Ev (2) 323 7 [some (.ref 215), some (.int s'.1), some (.int s'.2), none] [] M0 R) ∧ (∀ e1 : (Int32 × mM), e2 = .inl e1 → R = emW eI e1))) : Ev (2) 323 13 [some (.ref 215), some (.int l1), some (.int l2), some (.int l3)] [] M0 R := by
  unfold f_X12_twins_13 at h
  rcases o_bif h with ⟨hb1, h⟩ | ⟨hb1, h⟩
  · refine ev_goT kc_323 3 (t := 42) (e := 16) (L' := [some (.ref 215), some (.int l1), some (.int l2), some (.int l3)]) (st' := []) rfl hb1 ?_
    refine ev_go kc_323 2 (i' := 7) (L' := [some (.ref 215), some (.int l1), some (.int (l2 + (1 : Int32))), some (.int l3)]) (st' := []) (M' := M0) rfl ?_
    obtain rfl := Option.some.inj h
    exact Ev.forget (mLe.kp (mLe.kp (mLe.kp (mLe.sk mLe.nl)))) ((hk.2 _ rfl).1 (l1, (l2 + (1 : Int32))) rfl)
  · refine ev_goF kc_323 3 (t := 42) (e := 16) (L' := [some (.ref 215), some (.int l1), some (.int l2), some (.int l3)]) (st' := []) rfl hb1 ?_
    refine ev_go kc_323 4 (i' := 20) (L' := [some (.ref 215), some (.int l1), some (.int l2), some (.int l3)]) (st' := [.int (0 : Int32), .int l2, .ref 215, .int l1]) (M' := M0) rfl ?_
    obtain ⟨v2, hc2, h⟩ := o_b1 h
    refine ev_cl0 (ins := .invokevirtual 79) kc_323 rfl rfl (a := 193) (as := [.ref 215, .int l2, .int (0 : Int32)]) (rest := [.int l1]) rfl rfl (Cs.deep (c_X12_of (M0 := M0) hc2) (by decide)) ?_
    refine ev_go kc_323 3 (i' := 24) (L' := [some (.ref 215), some (.int l1), some (.int l2), some (.int l3)]) (st' := [.int (0 : Int32), .int l3, .ref 215, .int v2, .int l1]) (M' := M0) rfl ?_
    obtain ⟨v3, hc3, h⟩ := o_b1 h
    refine ev_cl0 (ins := .invokevirtual 79) kc_323 rfl rfl (a := 193) (as := [.ref 215, .int l3, .int (0 : Int32)]) (rest := [.int v2, .int l1]) rfl rfl (Cs.deep (c_X12_of (M0 := M0) hc3) (by decide)) ?_
    rcases o_bif h with ⟨hb4, h⟩ | ⟨hb4, h⟩
    · refine ev_goT kc_323 1 (t := 37) (e := 26) (L' := [some (.ref 215), some (.int l1), some (.int l2), some (.int l3)]) (st' := [.int l1]) rfl hb4 ?_
      refine ev_go kc_323 5 (i' := 13) (L' := [some (.ref 215), some (.int (l1 + (0 : Int32))), some (.int l2), some (.int (l3 + (1 : Int32)))]) (st' := []) (M' := M0) rfl ?_
      obtain rfl := Option.some.inj h
      exact Ev.forget (mLe.kp (mLe.kp (mLe.kp (mLe.kp mLe.nl)))) (hk.1 ((l1 + (0 : Int32)), (l3 + (1 : Int32))) rfl)
    · refine ev_goF kc_323 1 (t := 37) (e := 26) (L' := [some (.ref 215), some (.int l1), some (.int l2), some (.int l3)]) (st' := [.int l1]) rfl hb4 ?_
      refine ev_go kc_323 3 (i' := 29) (L' := [some (.ref 215), some (.int l1), some (.int l2), some (.int l3)]) (st' := [.int (1 : Int32), .int l2, .ref 215, .int l1]) (M' := M0) rfl ?_
      obtain ⟨v5, hc5, h⟩ := o_b1 h
      refine ev_cl0 (ins := .invokevirtual 79) kc_323 rfl rfl (a := 193) (as := [.ref 215, .int l2, .int (1 : Int32)]) (rest := [.int l1]) rfl rfl (Cs.deep (c_X12_of (M0 := M0) hc5) (by decide)) ?_
      refine ev_go kc_323 3 (i' := 33) (L' := [some (.ref 215), some (.int l1), some (.int l2), some (.int l3)]) (st' := [.int (1 : Int32), .int l3, .ref 215, .int v5, .int l1]) (M' := M0) rfl ?_
      obtain ⟨v6, hc6, h⟩ := o_b1 h
      refine ev_cl0 (ins := .invokevirtual 79) kc_323 rfl rfl (a := 193) (as := [.ref 215, .int l3, .int (1 : Int32)]) (rest := [.int v5, .int l1]) rfl rfl (Cs.deep (c_X12_of (M0 := M0) hc6) (by decide)) ?_
      rcases o_bif h with ⟨hb7, h⟩ | ⟨hb7, h⟩
      · refine ev_goT kc_323 1 (t := 37) (e := 35) (L' := [some (.ref 215), some (.int l1), some (.int l2), some (.int l3)]) (st' := [.int l1]) rfl hb7 ?_
        refine ev_go kc_323 5 (i' := 13) (L' := [some (.ref 215), some (.int (l1 + (0 : Int32))), some (.int l2), some (.int (l3 + (1 : Int32)))]) (st' := []) (M' := M0) rfl ?_
        obtain rfl := Option.some.inj h
        exact Ev.forget (mLe.kp (mLe.kp (mLe.kp (mLe.kp mLe.nl)))) (hk.1 ((l1 + (0 : Int32)), (l3 + (1 : Int32))) rfl)
      · refine ev_goF kc_323 1 (t := 37) (e := 35) (L' := [some (.ref 215), some (.int l1), some (.int l2), some (.int l3)]) (st' := [.int l1]) rfl hb7 ?_
        refine ev_go kc_323 6 (i' := 13) (L' := [some (.ref 215), some (.int (l1 + (1 : Int32))), some (.int l2), some (.int (l3 + (1 : Int32)))]) (st' := []) (M' := M0) rfl ?_
        obtain rfl := Option.some.inj h
        exact Ev.forget (mLe.kp (mLe.kp (mLe.kp (mLe.kp mLe.nl)))) (hk.1 ((l1 + (1 : Int32)), (l3 + (1 : Int32))) rfl)
def f_X12_twins_l13 (l2 : Int32) (l1 : Int32) (l3 : Int32) (M0 : mM) : Option ((Int32 × mM) ⊕ (Int32 × Int32)) :=
  wh 100000 (fun s : Int32 × Int32 => f_X12_twins_13 s.1 l2 s.2 M0) (l1, l3)
theorem e_X12_twins_l13 {l1 : Int32} {l2 : Int32} {l3 : Int32} {M0 : mM} {R : mZ} {out : ((Int32 × mM) ⊕ (Int32 × Int32))}  (h : f_X12_twins_l13 l2 l1 l3 M0 = some out) (hk : (∀ s' : Int32 × Int32, out = .inr s' → Ev (2) 323 7 [some (.ref 215), some (.int s'.1), some (.int s'.2), none] [] M0 R) ∧ (∀ e1 : (Int32 × mM), out = .inl e1 → R = emW eI e1)) : Ev (2) 323 13 [some (.ref 215), some (.int l1), some (.int l2), some (.int l3)] [] M0 R := by
  unfold f_X12_twins_l13 at h
  exact wh_ev (P := fun s : Int32 × Int32 => Ev (2) 323 13 [some (.ref 215), some (.int s.1), some (.int l2), some (.int s.2)] [] M0 R) (Q := fun e : ((Int32 × mM) ⊕ (Int32 × Int32)) => (∀ s' : Int32 × Int32, e = .inr s' → Ev (2) 323 7 [some (.ref 215), some (.int s'.1), some (.int s'.2), none] [] M0 R) ∧ (∀ e1 : (Int32 × mM), e = .inl e1 → R = emW eI e1)) (fun s o hb h1 h2 => e_X12_twins_13  hb ⟨h1, h2⟩) 100000 _ _ h hk
def f_X12_twins_7 (l1 : Int32) (l2 : Int32) (M0 : mM) : Option ((Int32 × mM) ⊕ (Int32 × Int32)) :=
  b1 (f_X12_people M0) (fun v8 => bif decide (v8 ≤ l2) then (some (.inl (l1, M0))) else (f_X12_twins_l13 l2 l1 (0 : Int32) M0))
set_option maxRecDepth 8000 in
theorem e_X12_twins_7 {l1 : Int32} {l2 : Int32} {M0 : mM} {R : mZ} {out : ((Int32 × mM) ⊕ (Int32 × Int32))}  (h : f_X12_twins_7 l1 l2 M0 = some out) (hk : (∀ s' : Int32 × Int32, out = .inr s' → Ev (2) 323 7 [some (.ref 215), some (.int s'.1), some (.int s'.2), none] [] M0 R) ∧ (∀ e1 : (Int32 × mM), out = .inl e1 → R = emW eI e1)) : Ev (2) 323 7 [some (.ref 215), some (.int l1), some (.int l2), none] [] M0 R := by
  unfold f_X12_twins_7 at h
  refine ev_go kc_323 2 (i' := 9) (L' := [some (.ref 215), some (.int l1), some (.int l2), none]) (st' := [.ref 215, .int l2]) (M' := M0) rfl ?_
  obtain ⟨v8, hc8, h⟩ := o_b1 h
  refine ev_cl0 (ins := .invokevirtual 71) kc_323 rfl rfl (a := 190) (as := [.ref 215]) (rest := [.int l2]) rfl rfl (Cs.deep (c_X12_people (M0 := M0) hc8) (by decide)) ?_
  rcases o_bif h with ⟨hb9, h⟩ | ⟨hb9, h⟩
  · refine ev_goT kc_323 1 (t := 44) (e := 11) (L' := [some (.ref 215), some (.int l1), some (.int l2), none]) (st' := []) rfl hb9 ?_
    refine ev_go kc_323 1 (i' := 45) (L' := [some (.ref 215), some (.int l1), some (.int l2), none]) (st' := [.int l1]) (M' := M0) rfl ?_
    obtain rfl := Option.some.inj h
    rw [show _ from (hk.2 _ rfl)]
    exact ev_ret kc_323 rfl rfl rfl
  · refine ev_goF kc_323 1 (t := 44) (e := 11) (L' := [some (.ref 215), some (.int l1), some (.int l2), none]) (st' := []) rfl hb9 ?_
    refine ev_go kc_323 2 (i' := 13) (L' := [some (.ref 215), some (.int l1), some (.int l2), some (.int (0 : Int32))]) (st' := []) (M' := M0) rfl ?_
    exact Ev.forget (mLe.kp (mLe.kp (mLe.kp (mLe.kp mLe.nl)))) (e_X12_twins_l13  h hk)
def f_X12_twins_l7 (l1 : Int32) (l2 : Int32) (M0 : mM) : Option (Int32 × mM) :=
  wh 100000 (fun s : Int32 × Int32 => f_X12_twins_7 s.1 s.2 M0) (l1, l2)
theorem e_X12_twins_l7 {l1 : Int32} {l2 : Int32} {M0 : mM} {R : mZ} {out : (Int32 × mM)}  (h : f_X12_twins_l7 l1 l2 M0 = some out) (hk : R = emW eI out) : Ev (2) 323 7 [some (.ref 215), some (.int l1), some (.int l2), none] [] M0 R := by
  unfold f_X12_twins_l7 at h
  exact wh_ev (P := fun s : Int32 × Int32 => Ev (2) 323 7 [some (.ref 215), some (.int s.1), some (.int s.2), none] [] M0 R) (Q := fun e : (Int32 × mM) => R = emW eI e) (fun s o hb h1 h2 => e_X12_twins_7  hb ⟨h1, h2⟩) 100000 _ _ h hk
def f_X12_twins  (M0 : mM) : Option (Int32 × mM) :=
  wr (mst M0 215 0 (0 : Int32)) (fun M10 => f_X12_twins_l7 (0 : Int32) (0 : Int32) M10)
set_option maxRecDepth 8000 in
theorem c_X12_twins  {M0 : mM} {out : (Int32 × mM)} (h : f_X12_twins M0 = some out) : Cs (2) 323 [.ref 215] M0 (emW eI out) := by
  generalize hk : emW eI out = R
  replace hk := hk.symm
  unfold f_X12_twins at h
  show Ev (2) 323 0 [some (.ref 215), none, none, none] [] M0 R
  refine ev_go kc_323 2 (i' := 2) (L' := [some (.ref 215), none, none, none]) (st' := [.int (0 : Int32), .ref 215]) (M' := M0) rfl ?_
  obtain ⟨M10, hM10, h⟩ := o_wr h
  refine ev_pf kc_323 rfl rfl rfl rfl (fun hc => absurd hc (by decide)) hM10 ?_
  refine ev_go kc_323 4 (i' := 7) (L' := [some (.ref 215), some (.int (0 : Int32)), some (.int (0 : Int32)), none]) (st' := []) (M' := M10) rfl ?_
  exact Ev.forget (mLe.kp (mLe.kp (mLe.kp (mLe.sk mLe.nl)))) (e_X12_twins_l7  h hk)
/-- WakeTowerModel.ring(I)I: 324, W -/
theorem kc_324 : mKc 324 = k_X12_ring := rfl
def f_X12_ring_12 (l1 : Int32) (s1 : Bool) (M0 : mM) : Option (Int32 × mM) :=
  b2 (f_X12_throwsIf s1 (1 : Int32) M0) (fun v1 M1 => bif v1 then (some ((0 : Int32), M1)) else (b1 (f_X12_those l1 M1) (fun v3 => some (v3, M1))))
set_option maxRecDepth 8000 in
theorem e_X12_ring_12 {l1 : Int32} {s1 : Bool} {M0 : mM} {R : mZ} {out : (Int32 × mM)}  (h : f_X12_ring_12 l1 s1 M0 = some out) (hk : R = emW eI out) : Ev (3) 324 12 [some (.ref 215), some (.int l1)] [.int (mB s1), .ref 215] M0 R := by
  unfold f_X12_ring_12 at h
  refine ev_go kc_324 1 (i' := 13) (L' := [some (.ref 215), some (.int l1)]) (st' := [.int (1 : Int32), .int (mB s1), .ref 215]) (M' := M0) rfl ?_
  obtain ⟨v1, M1, hc1, h⟩ := o_b2 h
  refine ev_cl0 (ins := .invokevirtual 304) kc_324 rfl rfl (a := 181) (as := [.ref 215, .int (mB s1), .int (1 : Int32)]) (rest := []) rfl rfl (Cs.deep (c_X12_throwsIf hc1) (by decide)) ?_
  rcases o_bif h with ⟨hb2, h⟩ | ⟨hb2, h⟩
  · refine ev_goF kc_324 1 (t := 17) (e := 15) (L' := [some (.ref 215), some (.int l1)]) (st' := []) rfl (mB_e0f hb2) ?_
    refine ev_go kc_324 2 (i' := 20) (L' := [some (.ref 215), some (.int l1)]) (st' := [.int (0 : Int32)]) (M' := M1) rfl ?_
    obtain rfl := Option.some.inj h
    rw [hk]
    exact ev_ret kc_324 rfl rfl rfl
  · refine ev_goT kc_324 1 (t := 17) (e := 15) (L' := [some (.ref 215), some (.int l1)]) (st' := []) rfl (mB_e0t hb2) ?_
    refine ev_go kc_324 2 (i' := 19) (L' := [some (.ref 215), some (.int l1)]) (st' := [.int l1, .ref 215]) (M' := M1) rfl ?_
    obtain ⟨v3, hc3, h⟩ := o_b1 h
    refine ev_cl0 (ins := .invokevirtual 366) kc_324 rfl rfl (a := 200) (as := [.ref 215, .int l1]) (rest := []) rfl rfl (Cs.deep (c_X12_those (M0 := M1) hc3) (by decide)) ?_
    obtain rfl := Option.some.inj h
    rw [hk]
    exact ev_ret kc_324 rfl rfl rfl
def f_X12_ring (p1 : Int32) (M0 : mM) : Option (Int32 × mM) :=
  wr (mst M0 215 0 (0 : Int32)) (fun M4 => bif (f_X12_in p1 (0 : Int32) (4 : Int32)) then (f_X12_ring_12 p1 false M4) else (f_X12_ring_12 p1 true M4))
set_option maxRecDepth 8000 in
theorem c_X12_ring {p1 : Int32} {M0 : mM} {out : (Int32 × mM)} (h : f_X12_ring p1 M0 = some out) : Cs (3) 324 [.ref 215, .int p1] M0 (emW eI out) := by
  generalize hk : emW eI out = R
  replace hk := hk.symm
  unfold f_X12_ring at h
  show Ev (3) 324 0 [some (.ref 215), some (.int p1)] [] M0 R
  refine ev_go kc_324 2 (i' := 2) (L' := [some (.ref 215), some (.int p1)]) (st' := [.int (0 : Int32), .ref 215]) (M' := M0) rfl ?_
  obtain ⟨M4, hM4, h⟩ := o_wr h
  refine ev_pf kc_324 rfl rfl rfl rfl (fun hc => absurd hc (by decide)) hM4 ?_
  refine ev_go kc_324 4 (i' := 7) (L' := [some (.ref 215), some (.int p1)]) (st' := [.int (4 : Int32), .int (0 : Int32), .int p1, .ref 215]) (M' := M4) rfl ?_
  refine ev_cl0 (ins := .invokestatic 92) kc_324 rfl rfl (a := 182) (as := [.int p1, .int (0 : Int32), .int (4 : Int32)]) (rest := [.ref 215]) rfl rfl (Cs.deep (c_X12_in (M0 := M4)) (by decide)) ?_
  rcases o_bif h with ⟨hb6, h⟩ | ⟨hb6, h⟩
  · refine ev_goT kc_324 1 (t := 11) (e := 9) (L' := [some (.ref 215), some (.int p1)]) (st' := [.ref 215]) rfl (mB_n0t hb6) ?_
    refine ev_go kc_324 1 (i' := 12) (L' := [some (.ref 215), some (.int p1)]) (st' := [.int (0 : Int32), .ref 215]) (M' := M4) rfl ?_
    exact Ev.forget (mLe.kp (mLe.kp mLe.nl)) (e_X12_ring_12  h hk)
  · refine ev_goF kc_324 1 (t := 11) (e := 9) (L' := [some (.ref 215), some (.int p1)]) (st' := [.ref 215]) rfl (mB_n0f hb6) ?_
    refine ev_go kc_324 2 (i' := 12) (L' := [some (.ref 215), some (.int p1)]) (st' := [.int (1 : Int32), .ref 215]) (M' := M4) rfl ?_
    exact Ev.forget (mLe.kp (mLe.kp mLe.nl)) (e_X12_ring_12  h hk)
/-- WakeTowerModel.reserves()I: 325, W -/
theorem kc_325 : mKc 325 = k_X12_reserves := rfl
def f_X12_reserves  (M0 : mM) : Option (Int32 × mM) :=
  wr (mst M0 215 0 (0 : Int32)) (fun M1 => b1 (f_X12_everybody M1) (fun v2 => b1 (f_X12_upOnes M1) (fun v3 => some ((v2 &&& (v3 ^^^ (-1 : Int32))), M1))))
set_option maxRecDepth 8000 in
theorem c_X12_reserves  {M0 : mM} {out : (Int32 × mM)} (h : f_X12_reserves M0 = some out) : Cs (4) 325 [.ref 215] M0 (emW eI out) := by
  generalize hk : emW eI out = R
  replace hk := hk.symm
  unfold f_X12_reserves at h
  show Ev (4) 325 0 [some (.ref 215)] [] M0 R
  refine ev_go kc_325 2 (i' := 2) (L' := [some (.ref 215)]) (st' := [.int (0 : Int32), .ref 215]) (M' := M0) rfl ?_
  obtain ⟨M1, hM1, h⟩ := o_wr h
  refine ev_pf kc_325 rfl rfl rfl rfl (fun hc => absurd hc (by decide)) hM1 ?_
  refine ev_go kc_325 1 (i' := 4) (L' := [some (.ref 215)]) (st' := [.ref 215]) (M' := M1) rfl ?_
  obtain ⟨v2, hc2, h⟩ := o_b1 h
  refine ev_cl0 (ins := .invokevirtual 369) kc_325 rfl rfl (a := 191) (as := [.ref 215]) (rest := []) rfl rfl (Cs.deep (c_X12_everybody (M0 := M1) hc2) (by decide)) ?_
  refine ev_go kc_325 1 (i' := 6) (L' := [some (.ref 215)]) (st' := [.ref 215, .int v2]) (M' := M1) rfl ?_
  obtain ⟨v3, hc3, h⟩ := o_b1 h
  refine ev_cl0 (ins := .invokevirtual 394) kc_325 rfl rfl (a := 197) (as := [.ref 215]) (rest := [.int v2]) rfl rfl (Cs.deep (c_X12_upOnes (M0 := M1) hc3) (by decide)) ?_
  refine ev_go kc_325 3 (i' := 10) (L' := [some (.ref 215)]) (st' := [.int (v2 &&& (v3 ^^^ (-1 : Int32)))]) (M' := M1) rfl ?_
  obtain rfl := Option.some.inj h
  rw [hk]
  exact ev_ret kc_325 rfl rfl rfl
/-- WakeTowerModel.sleepers()I: 326, W -/
theorem kc_326 : mKc 326 = k_X12_sleepers := rfl
def f_X12_sleepers  (M0 : mM) : Option (Int32 × mM) :=
  wr (mst M0 215 0 (0 : Int32)) (fun M1 => b1 (f_X12_asleepOnes M1) (fun v2 => some (v2, M1)))
set_option maxRecDepth 8000 in
theorem c_X12_sleepers  {M0 : mM} {out : (Int32 × mM)} (h : f_X12_sleepers M0 = some out) : Cs (4) 326 [.ref 215] M0 (emW eI out) := by
  generalize hk : emW eI out = R
  replace hk := hk.symm
  unfold f_X12_sleepers at h
  show Ev (4) 326 0 [some (.ref 215)] [] M0 R
  refine ev_go kc_326 2 (i' := 2) (L' := [some (.ref 215)]) (st' := [.int (0 : Int32), .ref 215]) (M' := M0) rfl ?_
  obtain ⟨M1, hM1, h⟩ := o_wr h
  refine ev_pf kc_326 rfl rfl rfl rfl (fun hc => absurd hc (by decide)) hM1 ?_
  refine ev_go kc_326 1 (i' := 4) (L' := [some (.ref 215)]) (st' := [.ref 215]) (M' := M1) rfl ?_
  obtain ⟨v2, hc2, h⟩ := o_b1 h
  refine ev_cl0 (ins := .invokevirtual 409) kc_326 rfl rfl (a := 199) (as := [.ref 215]) (rest := []) rfl rfl (Cs.deep (c_X12_asleepOnes (M0 := M1) hc2) (by decide)) ?_
  obtain rfl := Option.some.inj h
  rw [hk]
  exact ev_ret kc_326 rfl rfl rfl
/-- WakeTowerModel.noAhead(I)Z: 327, P -/
theorem kc_327 : mKc 327 = k_X12_noAhead := rfl
def f_X12_noAhead (p0 : Int32) : Bool :=
  bif (f_X12_in p0 (0 : Int32) (60 : Int32)) then false else true
set_option maxRecDepth 8000 in
theorem c_X12_noAhead {p0 : Int32} {M0 : mM} : Cs (1) 327 [.int p0] M0 (emR eB M0 (f_X12_noAhead p0)) := by
  generalize h : f_X12_noAhead p0 = out
  generalize hk : emR eB M0 out = R
  replace hk := hk.symm
  unfold f_X12_noAhead at h
  show Ev (1) 327 0 [some (.int p0)] [] M0 R
  refine ev_go kc_327 3 (i' := 3) (L' := [some (.int p0)]) (st' := [.int (60 : Int32), .int (0 : Int32), .int p0]) (M' := M0) rfl ?_
  refine ev_cl0 (ins := .invokestatic 92) kc_327 rfl rfl (a := 182) (as := [.int p0, .int (0 : Int32), .int (60 : Int32)]) (rest := []) rfl rfl (Cs.deep (c_X12_in (M0 := M0)) (by decide)) ?_
  rcases o_bif h with ⟨hb2, h⟩ | ⟨hb2, h⟩
  · refine ev_goT kc_327 1 (t := 7) (e := 5) (L' := [some (.int p0)]) (st' := []) rfl (mB_n0t hb2) ?_
    refine ev_go kc_327 1 (i' := 8) (L' := [some (.int p0)]) (st' := [.int (0 : Int32)]) (M' := M0) rfl ?_
    subst h
    rw [hk]
    exact ev_ret kc_327 rfl rfl rfl
  · refine ev_goF kc_327 1 (t := 7) (e := 5) (L' := [some (.int p0)]) (st' := []) rfl (mB_n0f hb2) ?_
    refine ev_go kc_327 2 (i' := 8) (L' := [some (.int p0)]) (st' := [.int (1 : Int32)]) (M' := M0) rfl ?_
    subst h
    rw [hk]
    exact ev_ret kc_327 rfl rfl rfl
/-- WakeTowerModel.soon()I: 328, W -/
theorem kc_328 : mKc 328 = k_X12_soon := rfl
def f_X12_soon_26 (l2 : Int32) (s0 : Int32) (M0 : mM) : Option ((Int32 × mM) ⊕ (Int32 × Int32 × mM)) :=
  b2 (f_X12_oneHour true M0) (fun v1 M1 => some (.inr (s0, (l2 + (1 : Int32)), M1)))
set_option maxRecDepth 8000 in
theorem e_X12_soon_26 {l2 : Int32} {s0 : Int32} {M0 : mM} {R : mZ} {out : ((Int32 × mM) ⊕ (Int32 × Int32 × mM))}  (h : f_X12_soon_26 l2 s0 M0 = some out) (hk : (∀ s' : Int32 × Int32 × mM, out = .inr s' → Ev (13) 328 9 [some (.ref 215), some (.int s'.1), some (.int s'.2.1)] [] (s'.2.2) R) ∧ (∀ e1 : (Int32 × mM), out = .inl e1 → R = emW eI e1)) : Ev (13) 328 26 [some (.ref 215), none, some (.int l2)] [.int s0] M0 R := by
  unfold f_X12_soon_26 at h
  refine ev_go kc_328 3 (i' := 29) (L' := [some (.ref 215), some (.int s0), some (.int l2)]) (st' := [.int (1 : Int32), .ref 215]) (M' := M0) rfl ?_
  obtain ⟨v1, M1, hc1, h⟩ := o_b2 h
  refine ev_cl0 (ins := .invokevirtual 350) kc_328 rfl rfl (a := 255) (as := [.ref 215, .int (mB true)]) (rest := []) rfl rfl (Cs.deep (c_X12_oneHour hc1) (by decide)) ?_
  refine ev_go kc_328 3 (i' := 9) (L' := [some (.ref 215), some (.int s0), some (.int (l2 + (1 : Int32)))]) (st' := []) (M' := M1) rfl ?_
  obtain rfl := Option.some.inj h
  exact Ev.forget (mLe.kp (mLe.kp (mLe.kp mLe.nl))) (hk.1 (s0, (l2 + (1 : Int32)), M1) rfl)
def f_X12_soon_33 (l1 : Int32) (M0 : mM) : Option (Int32 × mM) :=
  b2 (f_X12_bringsBack M0) (fun v2 M2 => some (l1, M2))
set_option maxRecDepth 8000 in
theorem e_X12_soon_33 {l1 : Int32} {M0 : mM} {R : mZ} {out : (Int32 × mM)}  (h : f_X12_soon_33 l1 M0 = some out) (hk : R = emW eI out) : Ev (13) 328 33 [some (.ref 215), some (.int l1), none] [] M0 R := by
  unfold f_X12_soon_33 at h
  refine ev_go kc_328 1 (i' := 34) (L' := [some (.ref 215), some (.int l1), none]) (st' := [.ref 215]) (M' := M0) rfl ?_
  obtain ⟨v2, M2, hc2, h⟩ := o_b2 h
  refine ev_cl0 (ins := .invokevirtual 363) kc_328 rfl rfl (a := 189) (as := [.ref 215]) (rest := []) rfl rfl (Cs.deep (c_X12_bringsBack hc2) (by decide)) ?_
  refine ev_go kc_328 1 (i' := 36) (L' := [some (.ref 215), some (.int l1), none]) (st' := [.int l1]) (M' := M2) rfl ?_
  obtain rfl := Option.some.inj h
  rw [hk]
  exact ev_ret kc_328 rfl rfl rfl
def f_X12_soon_9 (l1 : Int32) (l2 : Int32) (M0 : mM) : Option ((Int32 × mM) ⊕ (Int32 × Int32 × mM)) :=
  bif decide ((60 : Int32) < l2) then (b1 (f_X12_soon_33 l1 M0) (fun r4 => some (.inl r4))) else (bif decide (¬ l1 = (-1 : Int32)) then (b1 (f_X12_soon_33 l1 M0) (fun r6 => some (.inl r6))) else (b1 (f_X12_upOnes M0) (fun v7 => bif decide ((M0 216 (ix (5 : Int32))) ≤ (f_J6_bitCount_0f7a4 v7)) then (f_X12_soon_26 l2 (-1 : Int32) M0) else (f_X12_soon_26 l2 l2 M0))))
set_option maxRecDepth 8000 in
theorem e_X12_soon_9 {l1 : Int32} {l2 : Int32} {M0 : mM} {R : mZ} {out : ((Int32 × mM) ⊕ (Int32 × Int32 × mM))}  (h : f_X12_soon_9 l1 l2 M0 = some out) (hk : (∀ s' : Int32 × Int32 × mM, out = .inr s' → Ev (13) 328 9 [some (.ref 215), some (.int s'.1), some (.int s'.2.1)] [] (s'.2.2) R) ∧ (∀ e1 : (Int32 × mM), out = .inl e1 → R = emW eI e1)) : Ev (13) 328 9 [some (.ref 215), some (.int l1), some (.int l2)] [] M0 R := by
  unfold f_X12_soon_9 at h
  rcases o_bif h with ⟨hb3, h⟩ | ⟨hb3, h⟩
  · refine ev_goT kc_328 3 (t := 33) (e := 12) (L' := [some (.ref 215), some (.int l1), some (.int l2)]) (st' := []) rfl hb3 ?_
    obtain ⟨r4, hr4, h⟩ := o_b1 h
    obtain rfl := Option.some.inj h
    exact Ev.forget (mLe.kp (mLe.kp (mLe.sk mLe.nl))) (e_X12_soon_33  hr4 (hk.2 _ rfl))
  · refine ev_goF kc_328 3 (t := 33) (e := 12) (L' := [some (.ref 215), some (.int l1), some (.int l2)]) (st' := []) rfl hb3 ?_
    rcases o_bif h with ⟨hb5, h⟩ | ⟨hb5, h⟩
    · refine ev_goT kc_328 3 (t := 33) (e := 15) (L' := [some (.ref 215), some (.int l1), some (.int l2)]) (st' := []) rfl hb5 ?_
      obtain ⟨r6, hr6, h⟩ := o_b1 h
      obtain rfl := Option.some.inj h
      exact Ev.forget (mLe.kp (mLe.kp (mLe.sk mLe.nl))) (e_X12_soon_33  hr6 (hk.2 _ rfl))
    · refine ev_goF kc_328 3 (t := 33) (e := 15) (L' := [some (.ref 215), some (.int l1), some (.int l2)]) (st' := []) rfl hb5 ?_
      refine ev_go kc_328 1 (i' := 16) (L' := [some (.ref 215), some (.int l1), some (.int l2)]) (st' := [.ref 215]) (M' := M0) rfl ?_
      obtain ⟨v7, hc7, h⟩ := o_b1 h
      refine ev_cl0 (ins := .invokevirtual 394) kc_328 rfl rfl (a := 197) (as := [.ref 215]) (rest := []) rfl rfl (Cs.deep (c_X12_upOnes (M0 := M0) hc7) (by decide)) ?_
      refine ev_cl0 (ins := .invokestatic 100) kc_328 rfl rfl (a := 10) (as := [.int v7]) (rest := []) rfl rfl (Cs.deep (c_J6_bitCount_0f7a4 (M0 := M0)) (by decide)) ?_
      refine ev_go kc_328 3 (i' := 21) (L' := [some (.ref 215), some (.int l1), some (.int l2)]) (st' := [.int (5 : Int32), .ref 216, .int (f_J6_bitCount_0f7a4 v7)]) (M' := M0) rfl ?_
      refine ev_ia kc_328 rfl rfl rfl ?_
      rcases o_bif h with ⟨hb9, h⟩ | ⟨hb9, h⟩
      · refine ev_goT kc_328 1 (t := 25) (e := 23) (L' := [some (.ref 215), some (.int l1), some (.int l2)]) (st' := []) rfl hb9 ?_
        refine ev_go kc_328 1 (i' := 26) (L' := [some (.ref 215), some (.int l1), some (.int l2)]) (st' := [.int (-1 : Int32)]) (M' := M0) rfl ?_
        exact Ev.forget (mLe.kp (mLe.sk (mLe.kp mLe.nl))) (e_X12_soon_26  h hk)
      · refine ev_goF kc_328 1 (t := 25) (e := 23) (L' := [some (.ref 215), some (.int l1), some (.int l2)]) (st' := []) rfl hb9 ?_
        refine ev_go kc_328 2 (i' := 26) (L' := [some (.ref 215), some (.int l1), some (.int l2)]) (st' := [.int l2]) (M' := M0) rfl ?_
        exact Ev.forget (mLe.kp (mLe.sk (mLe.kp mLe.nl))) (e_X12_soon_26  h hk)
def f_X12_soon_l9 (l1 : Int32) (l2 : Int32) (M0 : mM) : Option (Int32 × mM) :=
  wh 100000 (fun s : Int32 × Int32 × mM => f_X12_soon_9 s.1 s.2.1 s.2.2) (l1, l2, M0)
theorem e_X12_soon_l9 {l1 : Int32} {l2 : Int32} {M0 : mM} {R : mZ} {out : (Int32 × mM)}  (h : f_X12_soon_l9 l1 l2 M0 = some out) (hk : R = emW eI out) : Ev (13) 328 9 [some (.ref 215), some (.int l1), some (.int l2)] [] M0 R := by
  unfold f_X12_soon_l9 at h
  exact wh_ev (P := fun s : Int32 × Int32 × mM => Ev (13) 328 9 [some (.ref 215), some (.int s.1), some (.int s.2.1)] [] s.2.2 R) (Q := fun e : (Int32 × mM) => R = emW eI e) (fun s o hb h1 h2 => e_X12_soon_9  hb ⟨h1, h2⟩) 100000 _ _ h hk
def f_X12_soon  (M0 : mM) : Option (Int32 × mM) :=
  wr (mst M0 215 0 (0 : Int32)) (fun M10 => b2 (f_X12_keepsAll M10) (fun v11 M11 => f_X12_soon_l9 (-1 : Int32) (0 : Int32) M11))
set_option maxRecDepth 8000 in
theorem c_X12_soon  {M0 : mM} {out : (Int32 × mM)} (h : f_X12_soon M0 = some out) : Cs (13) 328 [.ref 215] M0 (emW eI out) := by
  generalize hk : emW eI out = R
  replace hk := hk.symm
  unfold f_X12_soon at h
  show Ev (13) 328 0 [some (.ref 215), none, none] [] M0 R
  refine ev_go kc_328 2 (i' := 2) (L' := [some (.ref 215), none, none]) (st' := [.int (0 : Int32), .ref 215]) (M' := M0) rfl ?_
  obtain ⟨M10, hM10, h⟩ := o_wr h
  refine ev_pf kc_328 rfl rfl rfl rfl (fun hc => absurd hc (by decide)) hM10 ?_
  refine ev_go kc_328 3 (i' := 6) (L' := [some (.ref 215), some (.int (-1 : Int32)), none]) (st' := [.ref 215]) (M' := M10) rfl ?_
  obtain ⟨v11, M11, hc11, h⟩ := o_b2 h
  refine ev_cl0 (ins := .invokevirtual 353) kc_328 rfl rfl (a := 188) (as := [.ref 215]) (rest := []) rfl rfl (Cs.deep (c_X12_keepsAll hc11) (by decide)) ?_
  refine ev_go kc_328 2 (i' := 9) (L' := [some (.ref 215), some (.int (-1 : Int32)), some (.int (0 : Int32))]) (st' := []) (M' := M11) rfl ?_
  exact Ev.forget (mLe.kp (mLe.kp (mLe.kp mLe.nl))) (e_X12_soon_l9  h hk)
/-- WakeTowerModel.ahead(II)I: 329, W -/
theorem kc_329 : mKc 329 = k_X12_ahead := rfl
def f_X12_ahead (p1 : Int32) (p2 : Int32) (M0 : mM) : Option (Int32 × mM) :=
  wr (mst M0 215 0 (0 : Int32)) (fun M1 => b1 (f_X12_nobody p1 M1) (fun v2 => b2 (f_X12_throwsIf v2 (1 : Int32) M1) (fun v3 M3 => bif v3 then (some ((0 : Int32), M3)) else (b2 (f_X12_throwsIf (f_X12_noAhead p2) (2 : Int32) M3) (fun v6 M6 => bif v6 then (some ((0 : Int32), M6)) else (b2 (f_X12_keepsAll M6) (fun v8 M8 => b2 (f_X12_goesOn p2 true M8) (fun v9 M9 => b1 (f_X12_of p1 (2 : Int32) M9) (fun v10 => b2 (f_X12_bringsBack M9) (fun v11 M11 => some (v10, M11)))))))))))
set_option maxRecDepth 8000 in
theorem c_X12_ahead {p1 : Int32} {p2 : Int32} {M0 : mM} {out : (Int32 × mM)} (h : f_X12_ahead p1 p2 M0 = some out) : Cs (14) 329 [.ref 215, .int p1, .int p2] M0 (emW eI out) := by
  generalize hk : emW eI out = R
  replace hk := hk.symm
  unfold f_X12_ahead at h
  show Ev (14) 329 0 [some (.ref 215), some (.int p1), some (.int p2), none] [] M0 R
  refine ev_go kc_329 2 (i' := 2) (L' := [some (.ref 215), some (.int p1), some (.int p2), none]) (st' := [.int (0 : Int32), .ref 215]) (M' := M0) rfl ?_
  obtain ⟨M1, hM1, h⟩ := o_wr h
  refine ev_pf kc_329 rfl rfl rfl rfl (fun hc => absurd hc (by decide)) hM1 ?_
  refine ev_go kc_329 3 (i' := 6) (L' := [some (.ref 215), some (.int p1), some (.int p2), none]) (st' := [.int p1, .ref 215, .ref 215]) (M' := M1) rfl ?_
  obtain ⟨v2, hc2, h⟩ := o_b1 h
  refine ev_cl0 (ins := .invokevirtual 329) kc_329 rfl rfl (a := 201) (as := [.ref 215, .int p1]) (rest := [.ref 215]) rfl rfl (Cs.deep (c_X12_nobody (M0 := M1) hc2) (by decide)) ?_
  refine ev_go kc_329 1 (i' := 8) (L' := [some (.ref 215), some (.int p1), some (.int p2), none]) (st' := [.int (1 : Int32), .int (mB v2), .ref 215]) (M' := M1) rfl ?_
  obtain ⟨v3, M3, hc3, h⟩ := o_b2 h
  refine ev_cl0 (ins := .invokevirtual 304) kc_329 rfl rfl (a := 181) (as := [.ref 215, .int (mB v2), .int (1 : Int32)]) (rest := []) rfl rfl (Cs.deep (c_X12_throwsIf hc3) (by decide)) ?_
  rcases o_bif h with ⟨hb4, h⟩ | ⟨hb4, h⟩
  · refine ev_goT kc_329 1 (t := 16) (e := 10) (L' := [some (.ref 215), some (.int p1), some (.int p2), none]) (st' := []) rfl (mB_n0t hb4) ?_
    refine ev_go kc_329 1 (i' := 17) (L' := [some (.ref 215), some (.int p1), some (.int p2), none]) (st' := [.int (0 : Int32)]) (M' := M3) rfl ?_
    obtain rfl := Option.some.inj h
    rw [hk]
    exact ev_ret kc_329 rfl rfl rfl
  · refine ev_goF kc_329 1 (t := 16) (e := 10) (L' := [some (.ref 215), some (.int p1), some (.int p2), none]) (st' := []) rfl (mB_n0f hb4) ?_
    refine ev_go kc_329 2 (i' := 12) (L' := [some (.ref 215), some (.int p1), some (.int p2), none]) (st' := [.int p2, .ref 215]) (M' := M3) rfl ?_
    refine ev_cl0 (ins := .invokestatic 460) kc_329 rfl rfl (a := 327) (as := [.int p2]) (rest := [.ref 215]) rfl rfl (Cs.deep (c_X12_noAhead (M0 := M3)) (by decide)) ?_
    refine ev_go kc_329 1 (i' := 14) (L' := [some (.ref 215), some (.int p1), some (.int p2), none]) (st' := [.int (2 : Int32), .int (mB (f_X12_noAhead p2)), .ref 215]) (M' := M3) rfl ?_
    obtain ⟨v6, M6, hc6, h⟩ := o_b2 h
    refine ev_cl0 (ins := .invokevirtual 304) kc_329 rfl rfl (a := 181) (as := [.ref 215, .int (mB (f_X12_noAhead p2)), .int (2 : Int32)]) (rest := []) rfl rfl (Cs.deep (c_X12_throwsIf hc6) (by decide)) ?_
    rcases o_bif h with ⟨hb7, h⟩ | ⟨hb7, h⟩
    · refine ev_goF kc_329 1 (t := 18) (e := 16) (L' := [some (.ref 215), some (.int p1), some (.int p2), none]) (st' := []) rfl (mB_e0f hb7) ?_
      refine ev_go kc_329 1 (i' := 17) (L' := [some (.ref 215), some (.int p1), some (.int p2), none]) (st' := [.int (0 : Int32)]) (M' := M6) rfl ?_
      obtain rfl := Option.some.inj h
      rw [hk]
      exact ev_ret kc_329 rfl rfl rfl
    · refine ev_goT kc_329 1 (t := 18) (e := 16) (L' := [some (.ref 215), some (.int p1), some (.int p2), none]) (st' := []) rfl (mB_e0t hb7) ?_
      refine ev_go kc_329 1 (i' := 19) (L' := [some (.ref 215), some (.int p1), some (.int p2), none]) (st' := [.ref 215]) (M' := M6) rfl ?_
      obtain ⟨v8, M8, hc8, h⟩ := o_b2 h
      refine ev_cl0 (ins := .invokevirtual 353) kc_329 rfl rfl (a := 188) (as := [.ref 215]) (rest := []) rfl rfl (Cs.deep (c_X12_keepsAll hc8) (by decide)) ?_
      refine ev_go kc_329 3 (i' := 23) (L' := [some (.ref 215), some (.int p1), some (.int p2), none]) (st' := [.int (1 : Int32), .int p2, .ref 215]) (M' := M8) rfl ?_
      obtain ⟨v9, M9, hc9, h⟩ := o_b2 h
      refine ev_cl0 (ins := .invokevirtual 359) kc_329 rfl rfl (a := 256) (as := [.ref 215, .int p2, .int (mB true)]) (rest := []) rfl rfl (Cs.deep (c_X12_goesOn hc9) (by decide)) ?_
      refine ev_go kc_329 4 (i' := 28) (L' := [some (.ref 215), some (.int p1), some (.int p2), none]) (st' := [.int (2 : Int32), .int p1, .ref 215]) (M' := M9) rfl ?_
      obtain ⟨v10, hc10, h⟩ := o_b1 h
      refine ev_cl0 (ins := .invokevirtual 79) kc_329 rfl rfl (a := 193) (as := [.ref 215, .int p1, .int (2 : Int32)]) (rest := []) rfl rfl (Cs.deep (c_X12_of (M0 := M9) hc10) (by decide)) ?_
      refine ev_go kc_329 2 (i' := 31) (L' := [some (.ref 215), some (.int p1), some (.int p2), some (.int v10)]) (st' := [.ref 215]) (M' := M9) rfl ?_
      obtain ⟨v11, M11, hc11, h⟩ := o_b2 h
      refine ev_cl0 (ins := .invokevirtual 363) kc_329 rfl rfl (a := 189) (as := [.ref 215]) (rest := []) rfl rfl (Cs.deep (c_X12_bringsBack hc11) (by decide)) ?_
      refine ev_go kc_329 1 (i' := 33) (L' := [some (.ref 215), some (.int p1), some (.int p2), some (.int v10)]) (st' := [.int v10]) (M' := M11) rfl ?_
      obtain rfl := Option.some.inj h
      rw [hk]
      exact ev_ret kc_329 rfl rfl rfl
/-- WakeTowerModel.trial(IZ)I: 330, W -/
theorem kc_330 : mKc 330 = k_X12_trial := rfl
def f_X12_trial_25 (s0 : Int32) (M0 : mM) : Option (Int32 × mM) :=
  b2 (f_X12_bringsBack M0) (fun v1 M1 => some (s0, M1))
set_option maxRecDepth 8000 in
theorem e_X12_trial_25 {s0 : Int32} {M0 : mM} {R : mZ} {out : (Int32 × mM)}  (h : f_X12_trial_25 s0 M0 = some out) (hk : R = emW eI out) : Ev (14) 330 25 [some (.ref 215), none, none, none] [.int s0] M0 R := by
  unfold f_X12_trial_25 at h
  refine ev_go kc_330 2 (i' := 27) (L' := [some (.ref 215), none, none, some (.int s0)]) (st' := [.ref 215]) (M' := M0) rfl ?_
  obtain ⟨v1, M1, hc1, h⟩ := o_b2 h
  refine ev_cl0 (ins := .invokevirtual 363) kc_330 rfl rfl (a := 189) (as := [.ref 215]) (rest := []) rfl rfl (Cs.deep (c_X12_bringsBack hc1) (by decide)) ?_
  refine ev_go kc_330 1 (i' := 29) (L' := [some (.ref 215), none, none, some (.int s0)]) (st' := [.int s0]) (M' := M1) rfl ?_
  obtain rfl := Option.some.inj h
  rw [hk]
  exact ev_ret kc_330 rfl rfl rfl
def f_X12_trial (p1 : Int32) (p2 : Bool) (M0 : mM) : Option (Int32 × mM) :=
  wr (mst M0 215 0 (0 : Int32)) (fun M2 => b2 (f_X12_throwsIf (f_X12_noAhead p1) (1 : Int32) M2) (fun v4 M4 => bif v4 then (some ((0 : Int32), M4)) else (b2 (f_X12_keepsAll M4) (fun v6 M6 => b2 (f_X12_goesOn p1 false M6) (fun v7 M7 => bif p2 then (b1 (f_X12_asleepOnes M7) (fun v9 => f_X12_trial_25 v9 M7)) else (b1 (f_X12_upOnes M7) (fun v10 => f_X12_trial_25 v10 M7)))))))
set_option maxRecDepth 8000 in
theorem c_X12_trial {p1 : Int32} {p2 : Bool} {M0 : mM} {out : (Int32 × mM)} (h : f_X12_trial p1 p2 M0 = some out) : Cs (14) 330 [.ref 215, .int p1, .int (mB p2)] M0 (emW eI out) := by
  generalize hk : emW eI out = R
  replace hk := hk.symm
  unfold f_X12_trial at h
  show Ev (14) 330 0 [some (.ref 215), some (.int p1), some (.int (mB p2)), none] [] M0 R
  refine ev_go kc_330 2 (i' := 2) (L' := [some (.ref 215), some (.int p1), some (.int (mB p2)), none]) (st' := [.int (0 : Int32), .ref 215]) (M' := M0) rfl ?_
  obtain ⟨M2, hM2, h⟩ := o_wr h
  refine ev_pf kc_330 rfl rfl rfl rfl (fun hc => absurd hc (by decide)) hM2 ?_
  refine ev_go kc_330 2 (i' := 5) (L' := [some (.ref 215), some (.int p1), some (.int (mB p2)), none]) (st' := [.int p1, .ref 215]) (M' := M2) rfl ?_
  refine ev_cl0 (ins := .invokestatic 460) kc_330 rfl rfl (a := 327) (as := [.int p1]) (rest := [.ref 215]) rfl rfl (Cs.deep (c_X12_noAhead (M0 := M2)) (by decide)) ?_
  refine ev_go kc_330 1 (i' := 7) (L' := [some (.ref 215), some (.int p1), some (.int (mB p2)), none]) (st' := [.int (1 : Int32), .int (mB (f_X12_noAhead p1)), .ref 215]) (M' := M2) rfl ?_
  obtain ⟨v4, M4, hc4, h⟩ := o_b2 h
  refine ev_cl0 (ins := .invokevirtual 304) kc_330 rfl rfl (a := 181) (as := [.ref 215, .int (mB (f_X12_noAhead p1)), .int (1 : Int32)]) (rest := []) rfl rfl (Cs.deep (c_X12_throwsIf hc4) (by decide)) ?_
  rcases o_bif h with ⟨hb5, h⟩ | ⟨hb5, h⟩
  · refine ev_goF kc_330 1 (t := 11) (e := 9) (L' := [some (.ref 215), some (.int p1), some (.int (mB p2)), none]) (st' := []) rfl (mB_e0f hb5) ?_
    refine ev_go kc_330 1 (i' := 10) (L' := [some (.ref 215), some (.int p1), some (.int (mB p2)), none]) (st' := [.int (0 : Int32)]) (M' := M4) rfl ?_
    obtain rfl := Option.some.inj h
    rw [hk]
    exact ev_ret kc_330 rfl rfl rfl
  · refine ev_goT kc_330 1 (t := 11) (e := 9) (L' := [some (.ref 215), some (.int p1), some (.int (mB p2)), none]) (st' := []) rfl (mB_e0t hb5) ?_
    refine ev_go kc_330 1 (i' := 12) (L' := [some (.ref 215), some (.int p1), some (.int (mB p2)), none]) (st' := [.ref 215]) (M' := M4) rfl ?_
    obtain ⟨v6, M6, hc6, h⟩ := o_b2 h
    refine ev_cl0 (ins := .invokevirtual 353) kc_330 rfl rfl (a := 188) (as := [.ref 215]) (rest := []) rfl rfl (Cs.deep (c_X12_keepsAll hc6) (by decide)) ?_
    refine ev_go kc_330 3 (i' := 16) (L' := [some (.ref 215), some (.int p1), some (.int (mB p2)), none]) (st' := [.int (0 : Int32), .int p1, .ref 215]) (M' := M6) rfl ?_
    obtain ⟨v7, M7, hc7, h⟩ := o_b2 h
    refine ev_cl0 (ins := .invokevirtual 359) kc_330 rfl rfl (a := 256) (as := [.ref 215, .int p1, .int (mB false)]) (rest := []) rfl rfl (Cs.deep (c_X12_goesOn hc7) (by decide)) ?_
    rcases o_bif h with ⟨hb8, h⟩ | ⟨hb8, h⟩
    · refine ev_goF kc_330 3 (t := 23) (e := 20) (L' := [some (.ref 215), some (.int p1), some (.int (mB p2)), none]) (st' := []) rfl (mB_e0f hb8) ?_
      refine ev_go kc_330 1 (i' := 21) (L' := [some (.ref 215), some (.int p1), some (.int (mB p2)), none]) (st' := [.ref 215]) (M' := M7) rfl ?_
      obtain ⟨v9, hc9, h⟩ := o_b1 h
      refine ev_cl0 (ins := .invokevirtual 409) kc_330 rfl rfl (a := 199) (as := [.ref 215]) (rest := []) rfl rfl (Cs.deep (c_X12_asleepOnes (M0 := M7) hc9) (by decide)) ?_
      refine ev_go kc_330 1 (i' := 25) (L' := [some (.ref 215), some (.int p1), some (.int (mB p2)), none]) (st' := [.int v9]) (M' := M7) rfl ?_
      exact Ev.forget (mLe.kp (mLe.sk (mLe.sk (mLe.sk mLe.nl)))) (e_X12_trial_25  h hk)
    · refine ev_goT kc_330 3 (t := 23) (e := 20) (L' := [some (.ref 215), some (.int p1), some (.int (mB p2)), none]) (st' := []) rfl (mB_e0t hb8) ?_
      refine ev_go kc_330 1 (i' := 24) (L' := [some (.ref 215), some (.int p1), some (.int (mB p2)), none]) (st' := [.ref 215]) (M' := M7) rfl ?_
      obtain ⟨v10, hc10, h⟩ := o_b1 h
      refine ev_cl0 (ins := .invokevirtual 394) kc_330 rfl rfl (a := 197) (as := [.ref 215]) (rest := []) rfl rfl (Cs.deep (c_X12_upOnes (M0 := M7) hc10) (by decide)) ?_
      exact Ev.forget (mLe.kp (mLe.sk (mLe.sk (mLe.sk mLe.nl)))) (e_X12_trial_25  h hk)
/-- WakeTowerModel.span(IZ)I: 331, W -/
theorem kc_331 : mKc 331 = k_X12_span := rfl
def f_X12_span_17 (l1 : Int32) (l2 : Bool) (l3 : Int32) (l4 : Int32) (M0 : mM) : Option ((Int32 × mM) ⊕ (Int32 × Int32 × mM)) :=
  bif decide ((6 : Int32) < l4) then (some (.inl (l3, M0))) else (wr (mst M0 216 (ix (7 : Int32)) l4) (fun M2 => b2 (f_X12_goesOn l1 false M2) (fun v3 M3 => b1 (f_X12_upOnes M3) (fun v4 => b2 (f_X12_bringsBack M3) (fun v6 M6 => bif decide (0 ≤ l3) then (bif l2 then (some (.inr ((mMax l3 (f_J6_bitCount_0f7a4 v4)), (l4 + (1 : Int32)), M6))) else (some (.inr ((mMin l3 (f_J6_bitCount_0f7a4 v4)), (l4 + (1 : Int32)), M6)))) else (some (.inr ((f_J6_bitCount_0f7a4 v4), (l4 + (1 : Int32)), M6))))))))
set_option maxRecDepth 8000 in
theorem e_X12_span_17 {l1 : Int32} {l2 : Bool} {l3 : Int32} {l4 : Int32} {M0 : mM} {R : mZ} {out : ((Int32 × mM) ⊕ (Int32 × Int32 × mM))}  (h : f_X12_span_17 l1 l2 l3 l4 M0 = some out) (hk : (∀ s' : Int32 × Int32 × mM, out = .inr s' → Ev (14) 331 17 [some (.ref 215), some (.int l1), some (.int (mB l2)), some (.int s'.1), some (.int s'.2.1), none] [] (s'.2.2) R) ∧ (∀ e1 : (Int32 × mM), out = .inl e1 → R = emW eI e1)) : Ev (14) 331 17 [some (.ref 215), some (.int l1), some (.int (mB l2)), some (.int l3), some (.int l4), none] [] M0 R := by
  unfold f_X12_span_17 at h
  rcases o_bif h with ⟨hb1, h⟩ | ⟨hb1, h⟩
  · refine ev_goT kc_331 3 (t := 52) (e := 20) (L' := [some (.ref 215), some (.int l1), some (.int (mB l2)), some (.int l3), some (.int l4), none]) (st' := []) rfl hb1 ?_
    refine ev_go kc_331 1 (i' := 53) (L' := [some (.ref 215), some (.int l1), some (.int (mB l2)), some (.int l3), some (.int l4), none]) (st' := [.int l3]) (M' := M0) rfl ?_
    obtain rfl := Option.some.inj h
    rw [show _ from (hk.2 _ rfl)]
    exact ev_ret kc_331 rfl rfl rfl
  · refine ev_goF kc_331 3 (t := 52) (e := 20) (L' := [some (.ref 215), some (.int l1), some (.int (mB l2)), some (.int l3), some (.int l4), none]) (st' := []) rfl hb1 ?_
    refine ev_go kc_331 4 (i' := 24) (L' := [some (.ref 215), some (.int l1), some (.int (mB l2)), some (.int l3), some (.int l4), none]) (st' := [.int l4, .int (7 : Int32), .ref 216]) (M' := M0) rfl ?_
    obtain ⟨M2, hM2, h⟩ := o_wr h
    refine ev_is kc_331 rfl rfl rfl hM2 ?_
    refine ev_go kc_331 3 (i' := 28) (L' := [some (.ref 215), some (.int l1), some (.int (mB l2)), some (.int l3), some (.int l4), none]) (st' := [.int (0 : Int32), .int l1, .ref 215]) (M' := M2) rfl ?_
    obtain ⟨v3, M3, hc3, h⟩ := o_b2 h
    refine ev_cl0 (ins := .invokevirtual 359) kc_331 rfl rfl (a := 256) (as := [.ref 215, .int l1, .int (mB false)]) (rest := []) rfl rfl (Cs.deep (c_X12_goesOn hc3) (by decide)) ?_
    refine ev_go kc_331 2 (i' := 31) (L' := [some (.ref 215), some (.int l1), some (.int (mB l2)), some (.int l3), some (.int l4), none]) (st' := [.ref 215]) (M' := M3) rfl ?_
    obtain ⟨v4, hc4, h⟩ := o_b1 h
    refine ev_cl0 (ins := .invokevirtual 394) kc_331 rfl rfl (a := 197) (as := [.ref 215]) (rest := []) rfl rfl (Cs.deep (c_X12_upOnes (M0 := M3) hc4) (by decide)) ?_
    refine ev_cl0 (ins := .invokestatic 100) kc_331 rfl rfl (a := 10) (as := [.int v4]) (rest := []) rfl rfl (Cs.deep (c_J6_bitCount_0f7a4 (M0 := M3)) (by decide)) ?_
    refine ev_go kc_331 2 (i' := 35) (L' := [some (.ref 215), some (.int l1), some (.int (mB l2)), some (.int l3), some (.int l4), some (.int (f_J6_bitCount_0f7a4 v4))]) (st' := [.ref 215]) (M' := M3) rfl ?_
    obtain ⟨v6, M6, hc6, h⟩ := o_b2 h
    refine ev_cl0 (ins := .invokevirtual 363) kc_331 rfl rfl (a := 189) (as := [.ref 215]) (rest := []) rfl rfl (Cs.deep (c_X12_bringsBack hc6) (by decide)) ?_
    rcases o_bif h with ⟨hb7, h⟩ | ⟨hb7, h⟩
    · refine ev_goT kc_331 2 (t := 40) (e := 38) (L' := [some (.ref 215), some (.int l1), some (.int (mB l2)), some (.int l3), some (.int l4), some (.int (f_J6_bitCount_0f7a4 v4))]) (st' := []) rfl hb7 ?_
      rcases o_bif h with ⟨hb8, h⟩ | ⟨hb8, h⟩
      · refine ev_goF kc_331 2 (t := 46) (e := 42) (L' := [some (.ref 215), some (.int l1), some (.int (mB l2)), some (.int l3), some (.int l4), some (.int (f_J6_bitCount_0f7a4 v4))]) (st' := []) rfl (mB_e0f hb8) ?_
        refine ev_go kc_331 2 (i' := 44) (L' := [some (.ref 215), some (.int l1), some (.int (mB l2)), some (.int l3), some (.int l4), some (.int (f_J6_bitCount_0f7a4 v4))]) (st' := [.int (f_J6_bitCount_0f7a4 v4), .int l3]) (M' := M6) rfl ?_
        refine ev_pm kc_331 rfl rfl rfl rfl (as := [.int l3, .int (f_J6_bitCount_0f7a4 v4)]) (rest := []) rfl rfl rfl (v := some (mMax l3 (f_J6_bitCount_0f7a4 v4))) rfl ?_
        refine ev_go kc_331 4 (i' := 17) (L' := [some (.ref 215), some (.int l1), some (.int (mB l2)), some (.int (mMax l3 (f_J6_bitCount_0f7a4 v4))), some (.int (l4 + (1 : Int32))), some (.int (f_J6_bitCount_0f7a4 v4))]) (st' := []) (M' := M6) rfl ?_
        obtain rfl := Option.some.inj h
        exact Ev.forget (mLe.kp (mLe.kp (mLe.kp (mLe.kp (mLe.kp (mLe.sk mLe.nl)))))) (hk.1 ((mMax l3 (f_J6_bitCount_0f7a4 v4)), (l4 + (1 : Int32)), M6) rfl)
      · refine ev_goT kc_331 2 (t := 46) (e := 42) (L' := [some (.ref 215), some (.int l1), some (.int (mB l2)), some (.int l3), some (.int l4), some (.int (f_J6_bitCount_0f7a4 v4))]) (st' := []) rfl (mB_e0t hb8) ?_
        refine ev_go kc_331 2 (i' := 48) (L' := [some (.ref 215), some (.int l1), some (.int (mB l2)), some (.int l3), some (.int l4), some (.int (f_J6_bitCount_0f7a4 v4))]) (st' := [.int (f_J6_bitCount_0f7a4 v4), .int l3]) (M' := M6) rfl ?_
        refine ev_pm kc_331 rfl rfl rfl rfl (as := [.int l3, .int (f_J6_bitCount_0f7a4 v4)]) (rest := []) rfl rfl rfl (v := some (mMin l3 (f_J6_bitCount_0f7a4 v4))) rfl ?_
        refine ev_go kc_331 3 (i' := 17) (L' := [some (.ref 215), some (.int l1), some (.int (mB l2)), some (.int (mMin l3 (f_J6_bitCount_0f7a4 v4))), some (.int (l4 + (1 : Int32))), some (.int (f_J6_bitCount_0f7a4 v4))]) (st' := []) (M' := M6) rfl ?_
        obtain rfl := Option.some.inj h
        exact Ev.forget (mLe.kp (mLe.kp (mLe.kp (mLe.kp (mLe.kp (mLe.sk mLe.nl)))))) (hk.1 ((mMin l3 (f_J6_bitCount_0f7a4 v4)), (l4 + (1 : Int32)), M6) rfl)
    · refine ev_goF kc_331 2 (t := 40) (e := 38) (L' := [some (.ref 215), some (.int l1), some (.int (mB l2)), some (.int l3), some (.int l4), some (.int (f_J6_bitCount_0f7a4 v4))]) (st' := []) rfl hb7 ?_
      refine ev_go kc_331 5 (i' := 17) (L' := [some (.ref 215), some (.int l1), some (.int (mB l2)), some (.int (f_J6_bitCount_0f7a4 v4)), some (.int (l4 + (1 : Int32))), some (.int (f_J6_bitCount_0f7a4 v4))]) (st' := []) (M' := M6) rfl ?_
      obtain rfl := Option.some.inj h
      exact Ev.forget (mLe.kp (mLe.kp (mLe.kp (mLe.kp (mLe.kp (mLe.sk mLe.nl)))))) (hk.1 ((f_J6_bitCount_0f7a4 v4), (l4 + (1 : Int32)), M6) rfl)
def f_X12_span_l17 (l1 : Int32) (l2 : Bool) (l3 : Int32) (l4 : Int32) (M0 : mM) : Option (Int32 × mM) :=
  wh 100000 (fun s : Int32 × Int32 × mM => f_X12_span_17 l1 l2 s.1 s.2.1 s.2.2) (l3, l4, M0)
theorem e_X12_span_l17 {l1 : Int32} {l2 : Bool} {l3 : Int32} {l4 : Int32} {M0 : mM} {R : mZ} {out : (Int32 × mM)}  (h : f_X12_span_l17 l1 l2 l3 l4 M0 = some out) (hk : R = emW eI out) : Ev (14) 331 17 [some (.ref 215), some (.int l1), some (.int (mB l2)), some (.int l3), some (.int l4), none] [] M0 R := by
  unfold f_X12_span_l17 at h
  exact wh_ev (P := fun s : Int32 × Int32 × mM => Ev (14) 331 17 [some (.ref 215), some (.int l1), some (.int (mB l2)), some (.int s.1), some (.int s.2.1), none] [] s.2.2 R) (Q := fun e : (Int32 × mM) => R = emW eI e) (fun s o hb h1 h2 => e_X12_span_17  hb ⟨h1, h2⟩) 100000 _ _ h hk
def f_X12_span (p1 : Int32) (p2 : Bool) (M0 : mM) : Option (Int32 × mM) :=
  wr (mst M0 215 0 (0 : Int32)) (fun M9 => b2 (f_X12_throwsIf (f_X12_noAhead p1) (1 : Int32) M9) (fun v11 M11 => bif v11 then (some ((0 : Int32), M11)) else (b2 (f_X12_keepsAll M11) (fun v13 M13 => f_X12_span_l17 p1 p2 (-1 : Int32) (1 : Int32) M13))))
set_option maxRecDepth 8000 in
theorem c_X12_span {p1 : Int32} {p2 : Bool} {M0 : mM} {out : (Int32 × mM)} (h : f_X12_span p1 p2 M0 = some out) : Cs (14) 331 [.ref 215, .int p1, .int (mB p2)] M0 (emW eI out) := by
  generalize hk : emW eI out = R
  replace hk := hk.symm
  unfold f_X12_span at h
  show Ev (14) 331 0 [some (.ref 215), some (.int p1), some (.int (mB p2)), none, none, none] [] M0 R
  refine ev_go kc_331 2 (i' := 2) (L' := [some (.ref 215), some (.int p1), some (.int (mB p2)), none, none, none]) (st' := [.int (0 : Int32), .ref 215]) (M' := M0) rfl ?_
  obtain ⟨M9, hM9, h⟩ := o_wr h
  refine ev_pf kc_331 rfl rfl rfl rfl (fun hc => absurd hc (by decide)) hM9 ?_
  refine ev_go kc_331 2 (i' := 5) (L' := [some (.ref 215), some (.int p1), some (.int (mB p2)), none, none, none]) (st' := [.int p1, .ref 215]) (M' := M9) rfl ?_
  refine ev_cl0 (ins := .invokestatic 460) kc_331 rfl rfl (a := 327) (as := [.int p1]) (rest := [.ref 215]) rfl rfl (Cs.deep (c_X12_noAhead (M0 := M9)) (by decide)) ?_
  refine ev_go kc_331 1 (i' := 7) (L' := [some (.ref 215), some (.int p1), some (.int (mB p2)), none, none, none]) (st' := [.int (1 : Int32), .int (mB (f_X12_noAhead p1)), .ref 215]) (M' := M9) rfl ?_
  obtain ⟨v11, M11, hc11, h⟩ := o_b2 h
  refine ev_cl0 (ins := .invokevirtual 304) kc_331 rfl rfl (a := 181) (as := [.ref 215, .int (mB (f_X12_noAhead p1)), .int (1 : Int32)]) (rest := []) rfl rfl (Cs.deep (c_X12_throwsIf hc11) (by decide)) ?_
  rcases o_bif h with ⟨hb12, h⟩ | ⟨hb12, h⟩
  · refine ev_goF kc_331 1 (t := 11) (e := 9) (L' := [some (.ref 215), some (.int p1), some (.int (mB p2)), none, none, none]) (st' := []) rfl (mB_e0f hb12) ?_
    refine ev_go kc_331 1 (i' := 10) (L' := [some (.ref 215), some (.int p1), some (.int (mB p2)), none, none, none]) (st' := [.int (0 : Int32)]) (M' := M11) rfl ?_
    obtain rfl := Option.some.inj h
    rw [hk]
    exact ev_ret kc_331 rfl rfl rfl
  · refine ev_goT kc_331 1 (t := 11) (e := 9) (L' := [some (.ref 215), some (.int p1), some (.int (mB p2)), none, none, none]) (st' := []) rfl (mB_e0t hb12) ?_
    refine ev_go kc_331 1 (i' := 12) (L' := [some (.ref 215), some (.int p1), some (.int (mB p2)), none, none, none]) (st' := [.ref 215]) (M' := M11) rfl ?_
    obtain ⟨v13, M13, hc13, h⟩ := o_b2 h
    refine ev_cl0 (ins := .invokevirtual 353) kc_331 rfl rfl (a := 188) (as := [.ref 215]) (rest := []) rfl rfl (Cs.deep (c_X12_keepsAll hc13) (by decide)) ?_
    refine ev_go kc_331 4 (i' := 17) (L' := [some (.ref 215), some (.int p1), some (.int (mB p2)), some (.int (-1 : Int32)), some (.int (1 : Int32)), none]) (st' := []) (M' := M13) rfl ?_
    exact Ev.forget (mLe.kp (mLe.kp (mLe.kp (mLe.kp (mLe.kp (mLe.sk mLe.nl)))))) (e_X12_span_l17  h hk)
/-- WakeTowerModel.ofLog(II)I: 332, R -/
theorem kc_332 : mKc 332 = k_X12_ofLog := rfl
def f_X12_ofLog (p1 : Int32) (p2 : Int32) (M0 : mM) : Option Int32 :=
  gd (mIn (((64 : Int32) + ((6 : Int32) * p1)) + p2) 2122) (some (M0 216 (ix (((64 : Int32) + ((6 : Int32) * p1)) + p2))))
set_option maxRecDepth 8000 in
theorem c_X12_ofLog {p1 : Int32} {p2 : Int32} {M0 : mM} {out : Int32} (h : f_X12_ofLog p1 p2 M0 = some out) : Cs (0) 332 [.ref 215, .int p1, .int p2] M0 (emR eI M0 out) := by
  generalize hk : emR eI M0 out = R
  replace hk := hk.symm
  unfold f_X12_ofLog at h
  show Ev (0) 332 0 [some (.ref 215), some (.int p1), some (.int p2)] [] M0 R
  refine ev_go kc_332 9 (i' := 9) (L' := [some (.ref 215), some (.int p1), some (.int p2)]) (st' := [.int (((64 : Int32) + ((6 : Int32) * p1)) + p2), .ref 216]) (M' := M0) rfl ?_
  obtain ⟨hg1, h⟩ := o_gd h
  refine ev_ia kc_332 rfl rfl hg1 ?_
  obtain rfl := Option.some.inj h
  rw [hk]
  exact ev_ret kc_332 rfl rfl rfl
/-- WakeTowerModel.led(IZ)I: 333, W -/
theorem kc_333 : mKc 333 = k_X12_led := rfl
def f_X12_led_23 (l1 : Int32) (l2 : Bool) (l3 : Int32) (l4 : Int32) (l5 : Int32) (M0 : mM) : Option ((Int32 × mM) ⊕ (Int32 × Int32 × Int32)) :=
  bif decide (l5 < 0) then (bif l2 then (some (.inl (l4, M0))) else (some (.inl (l3, M0)))) else (b1 (f_X12_ofLog l5 (2 : Int32) M0) (fun v3 => bif decide (v3 = l1) then (b1 (f_X12_ofLog l5 (0 : Int32) M0) (fun v5 => some (.inr ((l3 + (1 : Int32)), v5, (l5 + (-1 : Int32)))))) else (some (.inr (l3, l4, (l5 + (-1 : Int32)))))))
set_option maxRecDepth 8000 in
theorem e_X12_led_23 {l1 : Int32} {l2 : Bool} {l3 : Int32} {l4 : Int32} {l5 : Int32} {M0 : mM} {R : mZ} {out : ((Int32 × mM) ⊕ (Int32 × Int32 × Int32))}  (h : f_X12_led_23 l1 l2 l3 l4 l5 M0 = some out) (hk : (∀ s' : Int32 × Int32 × Int32, out = .inr s' → Ev (2) 333 23 [some (.ref 215), some (.int l1), some (.int (mB l2)), some (.int s'.1), some (.int s'.2.1), some (.int s'.2.2)] [] M0 R) ∧ (∀ e1 : (Int32 × mM), out = .inl e1 → R = emW eI e1)) : Ev (2) 333 23 [some (.ref 215), some (.int l1), some (.int (mB l2)), some (.int l3), some (.int l4), some (.int l5)] [] M0 R := by
  unfold f_X12_led_23 at h
  rcases o_bif h with ⟨hb1, h⟩ | ⟨hb1, h⟩
  · refine ev_goT kc_333 2 (t := 40) (e := 25) (L' := [some (.ref 215), some (.int l1), some (.int (mB l2)), some (.int l3), some (.int l4), some (.int l5)]) (st' := []) rfl hb1 ?_
    rcases o_bif h with ⟨hb2, h⟩ | ⟨hb2, h⟩
    · refine ev_goF kc_333 2 (t := 44) (e := 42) (L' := [some (.ref 215), some (.int l1), some (.int (mB l2)), some (.int l3), some (.int l4), some (.int l5)]) (st' := []) rfl (mB_e0f hb2) ?_
      refine ev_go kc_333 2 (i' := 45) (L' := [some (.ref 215), some (.int l1), some (.int (mB l2)), some (.int l3), some (.int l4), some (.int l5)]) (st' := [.int l4]) (M' := M0) rfl ?_
      obtain rfl := Option.some.inj h
      rw [show _ from (hk.2 _ rfl)]
      exact ev_ret kc_333 rfl rfl rfl
    · refine ev_goT kc_333 2 (t := 44) (e := 42) (L' := [some (.ref 215), some (.int l1), some (.int (mB l2)), some (.int l3), some (.int l4), some (.int l5)]) (st' := []) rfl (mB_e0t hb2) ?_
      refine ev_go kc_333 1 (i' := 45) (L' := [some (.ref 215), some (.int l1), some (.int (mB l2)), some (.int l3), some (.int l4), some (.int l5)]) (st' := [.int l3]) (M' := M0) rfl ?_
      obtain rfl := Option.some.inj h
      rw [show _ from (hk.2 _ rfl)]
      exact ev_ret kc_333 rfl rfl rfl
  · refine ev_goF kc_333 2 (t := 40) (e := 25) (L' := [some (.ref 215), some (.int l1), some (.int (mB l2)), some (.int l3), some (.int l4), some (.int l5)]) (st' := []) rfl hb1 ?_
    refine ev_go kc_333 3 (i' := 28) (L' := [some (.ref 215), some (.int l1), some (.int (mB l2)), some (.int l3), some (.int l4), some (.int l5)]) (st' := [.int (2 : Int32), .int l5, .ref 215]) (M' := M0) rfl ?_
    obtain ⟨v3, hc3, h⟩ := o_b1 h
    refine ev_cl0 (ins := .invokevirtual 463) kc_333 rfl rfl (a := 332) (as := [.ref 215, .int l5, .int (2 : Int32)]) (rest := []) rfl rfl (Cs.deep (c_X12_ofLog (M0 := M0) hc3) (by decide)) ?_
    rcases o_bif h with ⟨hb4, h⟩ | ⟨hb4, h⟩
    · refine ev_goT kc_333 2 (t := 32) (e := 31) (L' := [some (.ref 215), some (.int l1), some (.int (mB l2)), some (.int l3), some (.int l4), some (.int l5)]) (st' := []) rfl hb4 ?_
      refine ev_go kc_333 4 (i' := 36) (L' := [some (.ref 215), some (.int l1), some (.int (mB l2)), some (.int (l3 + (1 : Int32))), some (.int l4), some (.int l5)]) (st' := [.int (0 : Int32), .int l5, .ref 215]) (M' := M0) rfl ?_
      obtain ⟨v5, hc5, h⟩ := o_b1 h
      refine ev_cl0 (ins := .invokevirtual 463) kc_333 rfl rfl (a := 332) (as := [.ref 215, .int l5, .int (0 : Int32)]) (rest := []) rfl rfl (Cs.deep (c_X12_ofLog (M0 := M0) hc5) (by decide)) ?_
      refine ev_go kc_333 3 (i' := 23) (L' := [some (.ref 215), some (.int l1), some (.int (mB l2)), some (.int (l3 + (1 : Int32))), some (.int v5), some (.int (l5 + (-1 : Int32)))]) (st' := []) (M' := M0) rfl ?_
      obtain rfl := Option.some.inj h
      exact Ev.forget (mLe.kp (mLe.kp (mLe.kp (mLe.kp (mLe.kp (mLe.kp mLe.nl)))))) (hk.1 ((l3 + (1 : Int32)), v5, (l5 + (-1 : Int32))) rfl)
    · refine ev_goF kc_333 2 (t := 32) (e := 31) (L' := [some (.ref 215), some (.int l1), some (.int (mB l2)), some (.int l3), some (.int l4), some (.int l5)]) (st' := []) rfl hb4 ?_
      refine ev_go kc_333 3 (i' := 23) (L' := [some (.ref 215), some (.int l1), some (.int (mB l2)), some (.int l3), some (.int l4), some (.int (l5 + (-1 : Int32)))]) (st' := []) (M' := M0) rfl ?_
      obtain rfl := Option.some.inj h
      exact Ev.forget (mLe.kp (mLe.kp (mLe.kp (mLe.kp (mLe.kp (mLe.kp mLe.nl)))))) (hk.1 (l3, l4, (l5 + (-1 : Int32))) rfl)
def f_X12_led_l23 (l1 : Int32) (l2 : Bool) (l3 : Int32) (l4 : Int32) (l5 : Int32) (M0 : mM) : Option (Int32 × mM) :=
  wh 100000 (fun s : Int32 × Int32 × Int32 => f_X12_led_23 l1 l2 s.1 s.2.1 s.2.2 M0) (l3, l4, l5)
theorem e_X12_led_l23 {l1 : Int32} {l2 : Bool} {l3 : Int32} {l4 : Int32} {l5 : Int32} {M0 : mM} {R : mZ} {out : (Int32 × mM)}  (h : f_X12_led_l23 l1 l2 l3 l4 l5 M0 = some out) (hk : R = emW eI out) : Ev (2) 333 23 [some (.ref 215), some (.int l1), some (.int (mB l2)), some (.int l3), some (.int l4), some (.int l5)] [] M0 R := by
  unfold f_X12_led_l23 at h
  exact wh_ev (P := fun s : Int32 × Int32 × Int32 => Ev (2) 333 23 [some (.ref 215), some (.int l1), some (.int (mB l2)), some (.int s.1), some (.int s.2.1), some (.int s.2.2)] [] M0 R) (Q := fun e : (Int32 × mM) => R = emW eI e) (fun s o hb h1 h2 => e_X12_led_23  hb ⟨h1, h2⟩) 100000 _ _ h hk
def f_X12_led (p1 : Int32) (p2 : Bool) (M0 : mM) : Option (Int32 × mM) :=
  wr (mst M0 215 0 (0 : Int32)) (fun M6 => b1 (f_X12_nobody p1 M6) (fun v7 => b2 (f_X12_throwsIf v7 (1 : Int32) M6) (fun v8 M8 => bif v8 then (some ((0 : Int32), M8)) else (f_X12_led_l23 p1 p2 (0 : Int32) (-1 : Int32) ((M8 216 (ix (6 : Int32))) - (1 : Int32)) M8))))
set_option maxRecDepth 8000 in
theorem c_X12_led {p1 : Int32} {p2 : Bool} {M0 : mM} {out : (Int32 × mM)} (h : f_X12_led p1 p2 M0 = some out) : Cs (2) 333 [.ref 215, .int p1, .int (mB p2)] M0 (emW eI out) := by
  generalize hk : emW eI out = R
  replace hk := hk.symm
  unfold f_X12_led at h
  show Ev (2) 333 0 [some (.ref 215), some (.int p1), some (.int (mB p2)), none, none, none] [] M0 R
  refine ev_go kc_333 2 (i' := 2) (L' := [some (.ref 215), some (.int p1), some (.int (mB p2)), none, none, none]) (st' := [.int (0 : Int32), .ref 215]) (M' := M0) rfl ?_
  obtain ⟨M6, hM6, h⟩ := o_wr h
  refine ev_pf kc_333 rfl rfl rfl rfl (fun hc => absurd hc (by decide)) hM6 ?_
  refine ev_go kc_333 3 (i' := 6) (L' := [some (.ref 215), some (.int p1), some (.int (mB p2)), none, none, none]) (st' := [.int p1, .ref 215, .ref 215]) (M' := M6) rfl ?_
  obtain ⟨v7, hc7, h⟩ := o_b1 h
  refine ev_cl0 (ins := .invokevirtual 329) kc_333 rfl rfl (a := 201) (as := [.ref 215, .int p1]) (rest := [.ref 215]) rfl rfl (Cs.deep (c_X12_nobody (M0 := M6) hc7) (by decide)) ?_
  refine ev_go kc_333 1 (i' := 8) (L' := [some (.ref 215), some (.int p1), some (.int (mB p2)), none, none, none]) (st' := [.int (1 : Int32), .int (mB v7), .ref 215]) (M' := M6) rfl ?_
  obtain ⟨v8, M8, hc8, h⟩ := o_b2 h
  refine ev_cl0 (ins := .invokevirtual 304) kc_333 rfl rfl (a := 181) (as := [.ref 215, .int (mB v7), .int (1 : Int32)]) (rest := []) rfl rfl (Cs.deep (c_X12_throwsIf hc8) (by decide)) ?_
  rcases o_bif h with ⟨hb9, h⟩ | ⟨hb9, h⟩
  · refine ev_goF kc_333 1 (t := 12) (e := 10) (L' := [some (.ref 215), some (.int p1), some (.int (mB p2)), none, none, none]) (st' := []) rfl (mB_e0f hb9) ?_
    refine ev_go kc_333 1 (i' := 11) (L' := [some (.ref 215), some (.int p1), some (.int (mB p2)), none, none, none]) (st' := [.int (0 : Int32)]) (M' := M8) rfl ?_
    obtain rfl := Option.some.inj h
    rw [hk]
    exact ev_ret kc_333 rfl rfl rfl
  · refine ev_goT kc_333 1 (t := 12) (e := 10) (L' := [some (.ref 215), some (.int p1), some (.int (mB p2)), none, none, none]) (st' := []) rfl (mB_e0t hb9) ?_
    refine ev_go kc_333 7 (i' := 19) (L' := [some (.ref 215), some (.int p1), some (.int (mB p2)), some (.int (0 : Int32)), some (.int (-1 : Int32)), none]) (st' := [.int (6 : Int32), .ref 216]) (M' := M8) rfl ?_
    refine ev_ia kc_333 rfl rfl rfl ?_
    refine ev_go kc_333 3 (i' := 23) (L' := [some (.ref 215), some (.int p1), some (.int (mB p2)), some (.int (0 : Int32)), some (.int (-1 : Int32)), some (.int ((M8 216 (ix (6 : Int32))) - (1 : Int32)))]) (st' := []) (M' := M8) rfl ?_
    exact Ev.forget (mLe.kp (mLe.kp (mLe.kp (mLe.kp (mLe.kp (mLe.kp mLe.nl)))))) (e_X12_led_l23  h hk)
/-- WakeTowerModel.log(II)I: 334, W -/
theorem kc_334 : mKc 334 = k_X12_log := rfl
def f_X12_log_12 (l1 : Int32) (l2 : Int32) (s1 : Bool) (M0 : mM) : Option (Int32 × mM) :=
  b2 (f_X12_throwsIf s1 (1 : Int32) M0) (fun v1 M1 => bif v1 then (some ((0 : Int32), M1)) else (bif (f_X12_in l1 (0 : Int32) ((M1 216 (ix (6 : Int32))) - (1 : Int32))) then (b1 (f_X12_ofLog l1 l2 M1) (fun v5 => some (v5, M1))) else (some ((-1 : Int32), M1))))
set_option maxRecDepth 8000 in
theorem e_X12_log_12 {l1 : Int32} {l2 : Int32} {s1 : Bool} {M0 : mM} {R : mZ} {out : (Int32 × mM)}  (h : f_X12_log_12 l1 l2 s1 M0 = some out) (hk : R = emW eI out) : Ev (1) 334 12 [some (.ref 215), some (.int l1), some (.int l2)] [.int (mB s1), .ref 215] M0 R := by
  unfold f_X12_log_12 at h
  refine ev_go kc_334 1 (i' := 13) (L' := [some (.ref 215), some (.int l1), some (.int l2)]) (st' := [.int (1 : Int32), .int (mB s1), .ref 215]) (M' := M0) rfl ?_
  obtain ⟨v1, M1, hc1, h⟩ := o_b2 h
  refine ev_cl0 (ins := .invokevirtual 304) kc_334 rfl rfl (a := 181) (as := [.ref 215, .int (mB s1), .int (1 : Int32)]) (rest := []) rfl rfl (Cs.deep (c_X12_throwsIf hc1) (by decide)) ?_
  rcases o_bif h with ⟨hb2, h⟩ | ⟨hb2, h⟩
  · refine ev_goF kc_334 1 (t := 17) (e := 15) (L' := [some (.ref 215), some (.int l1), some (.int l2)]) (st' := []) rfl (mB_e0f hb2) ?_
    refine ev_go kc_334 1 (i' := 16) (L' := [some (.ref 215), some (.int l1), some (.int l2)]) (st' := [.int (0 : Int32)]) (M' := M1) rfl ?_
    obtain rfl := Option.some.inj h
    rw [hk]
    exact ev_ret kc_334 rfl rfl rfl
  · refine ev_goT kc_334 1 (t := 17) (e := 15) (L' := [some (.ref 215), some (.int l1), some (.int l2)]) (st' := []) rfl (mB_e0t hb2) ?_
    refine ev_go kc_334 5 (i' := 22) (L' := [some (.ref 215), some (.int l1), some (.int l2)]) (st' := [.int (6 : Int32), .ref 216, .int (0 : Int32), .int l1]) (M' := M1) rfl ?_
    refine ev_ia kc_334 rfl rfl rfl ?_
    refine ev_go kc_334 2 (i' := 25) (L' := [some (.ref 215), some (.int l1), some (.int l2)]) (st' := [.int ((M1 216 (ix (6 : Int32))) - (1 : Int32)), .int (0 : Int32), .int l1]) (M' := M1) rfl ?_
    refine ev_cl0 (ins := .invokestatic 92) kc_334 rfl rfl (a := 182) (as := [.int l1, .int (0 : Int32), .int ((M1 216 (ix (6 : Int32))) - (1 : Int32))]) (rest := []) rfl rfl (Cs.deep (c_X12_in (M0 := M1)) (by decide)) ?_
    rcases o_bif h with ⟨hb4, h⟩ | ⟨hb4, h⟩
    · refine ev_goF kc_334 1 (t := 32) (e := 27) (L' := [some (.ref 215), some (.int l1), some (.int l2)]) (st' := []) rfl (mB_e0f hb4) ?_
      refine ev_go kc_334 3 (i' := 30) (L' := [some (.ref 215), some (.int l1), some (.int l2)]) (st' := [.int l2, .int l1, .ref 215]) (M' := M1) rfl ?_
      obtain ⟨v5, hc5, h⟩ := o_b1 h
      refine ev_cl0 (ins := .invokevirtual 463) kc_334 rfl rfl (a := 332) (as := [.ref 215, .int l1, .int l2]) (rest := []) rfl rfl (Cs.deep (c_X12_ofLog (M0 := M1) hc5) (by decide)) ?_
      refine ev_go kc_334 1 (i' := 33) (L' := [some (.ref 215), some (.int l1), some (.int l2)]) (st' := [.int v5]) (M' := M1) rfl ?_
      obtain rfl := Option.some.inj h
      rw [hk]
      exact ev_ret kc_334 rfl rfl rfl
    · refine ev_goT kc_334 1 (t := 32) (e := 27) (L' := [some (.ref 215), some (.int l1), some (.int l2)]) (st' := []) rfl (mB_e0t hb4) ?_
      refine ev_go kc_334 1 (i' := 33) (L' := [some (.ref 215), some (.int l1), some (.int l2)]) (st' := [.int (-1 : Int32)]) (M' := M1) rfl ?_
      obtain rfl := Option.some.inj h
      rw [hk]
      exact ev_ret kc_334 rfl rfl rfl
def f_X12_log (p1 : Int32) (p2 : Int32) (M0 : mM) : Option (Int32 × mM) :=
  wr (mst M0 215 0 (0 : Int32)) (fun M6 => bif (f_X12_in p2 (0 : Int32) (5 : Int32)) then (f_X12_log_12 p1 p2 false M6) else (f_X12_log_12 p1 p2 true M6))
set_option maxRecDepth 8000 in
theorem c_X12_log {p1 : Int32} {p2 : Int32} {M0 : mM} {out : (Int32 × mM)} (h : f_X12_log p1 p2 M0 = some out) : Cs (1) 334 [.ref 215, .int p1, .int p2] M0 (emW eI out) := by
  generalize hk : emW eI out = R
  replace hk := hk.symm
  unfold f_X12_log at h
  show Ev (1) 334 0 [some (.ref 215), some (.int p1), some (.int p2)] [] M0 R
  refine ev_go kc_334 2 (i' := 2) (L' := [some (.ref 215), some (.int p1), some (.int p2)]) (st' := [.int (0 : Int32), .ref 215]) (M' := M0) rfl ?_
  obtain ⟨M6, hM6, h⟩ := o_wr h
  refine ev_pf kc_334 rfl rfl rfl rfl (fun hc => absurd hc (by decide)) hM6 ?_
  refine ev_go kc_334 4 (i' := 7) (L' := [some (.ref 215), some (.int p1), some (.int p2)]) (st' := [.int (5 : Int32), .int (0 : Int32), .int p2, .ref 215]) (M' := M6) rfl ?_
  refine ev_cl0 (ins := .invokestatic 92) kc_334 rfl rfl (a := 182) (as := [.int p2, .int (0 : Int32), .int (5 : Int32)]) (rest := [.ref 215]) rfl rfl (Cs.deep (c_X12_in (M0 := M6)) (by decide)) ?_
  rcases o_bif h with ⟨hb8, h⟩ | ⟨hb8, h⟩
  · refine ev_goT kc_334 1 (t := 11) (e := 9) (L' := [some (.ref 215), some (.int p1), some (.int p2)]) (st' := [.ref 215]) rfl (mB_n0t hb8) ?_
    refine ev_go kc_334 1 (i' := 12) (L' := [some (.ref 215), some (.int p1), some (.int p2)]) (st' := [.int (0 : Int32), .ref 215]) (M' := M6) rfl ?_
    exact Ev.forget (mLe.kp (mLe.kp (mLe.kp mLe.nl))) (e_X12_log_12  h hk)
  · refine ev_goF kc_334 1 (t := 11) (e := 9) (L' := [some (.ref 215), some (.int p1), some (.int p2)]) (st' := [.ref 215]) rfl (mB_n0f hb8) ?_
    refine ev_go kc_334 2 (i' := 12) (L' := [some (.ref 215), some (.int p1), some (.int p2)]) (st' := [.int (1 : Int32), .ref 215]) (M' := M6) rfl ?_
    exact Ev.forget (mLe.kp (mLe.kp (mLe.kp mLe.nl))) (e_X12_log_12  h hk)
/-- WakeTowerModel.seed(I)I: 335, W -/
theorem kc_335 : mKc 335 = k_X12_seed := rfl
def f_X12_seed (p1 : Int32) (M0 : mM) : Option (Int32 × mM) :=
  wr (mst M0 215 0 (0 : Int32)) (fun M1 => wr (mst M1 216 (ix (7 : Int32)) p1) (fun M2 => some ((M1 216 (ix (7 : Int32))), M2)))
set_option maxRecDepth 8000 in
theorem c_X12_seed {p1 : Int32} {M0 : mM} {out : (Int32 × mM)} (h : f_X12_seed p1 M0 = some out) : Cs (0) 335 [.ref 215, .int p1] M0 (emW eI out) := by
  generalize hk : emW eI out = R
  replace hk := hk.symm
  unfold f_X12_seed at h
  show Ev (0) 335 0 [some (.ref 215), some (.int p1), none] [] M0 R
  refine ev_go kc_335 2 (i' := 2) (L' := [some (.ref 215), some (.int p1), none]) (st' := [.int (0 : Int32), .ref 215]) (M' := M0) rfl ?_
  obtain ⟨M1, hM1, h⟩ := o_wr h
  refine ev_pf kc_335 rfl rfl rfl rfl (fun hc => absurd hc (by decide)) hM1 ?_
  refine ev_go kc_335 3 (i' := 6) (L' := [some (.ref 215), some (.int p1), none]) (st' := [.int (7 : Int32), .ref 216]) (M' := M1) rfl ?_
  refine ev_ia kc_335 rfl rfl rfl ?_
  refine ev_go kc_335 5 (i' := 12) (L' := [some (.ref 215), some (.int p1), some (.int (M1 216 (ix (7 : Int32))))]) (st' := [.int p1, .int (7 : Int32), .ref 216]) (M' := M1) rfl ?_
  obtain ⟨M2, hM2, h⟩ := o_wr h
  refine ev_is kc_335 rfl rfl rfl hM2 ?_
  refine ev_go kc_335 1 (i' := 14) (L' := [some (.ref 215), some (.int p1), some (.int (M1 216 (ix (7 : Int32))))]) (st' := [.int (M1 216 (ix (7 : Int32)))]) (M' := M2) rfl ?_
  obtain rfl := Option.some.inj h
  rw [hk]
  exact ev_ret kc_335 rfl rfl rfl
/-- WakeTowerModel.count(I)I: 336, W -/
theorem kc_336 : mKc 336 = k_X12_count := rfl
def f_X12_count_7 (l1 : Int32) (l2 : Int32) (l3 : Int32) (M0 : mM) : Option ((Int32 × mM) ⊕ (Int32 × Int32)) :=
  b1 (f_X12_people M0) (fun v1 => bif decide (v1 ≤ l3) then (bif decide (swN l1 (2) 9 = 0) then (bif decide (¬ (M0 216 (ix (2 : Int32))) = (1 : Int32)) then (some (.inl ((-1 : Int32), M0))) else (some (.inl ((M0 216 (ix (424 : Int32))), M0)))) else (bif decide (swN l1 (2) 9 = 1) then (bif (f_X12_in l1 (0 : Int32) (5 : Int32)) then (gd (mIn l1 2122) (some (.inl ((M0 216 (ix l1)), M0)))) else (some (.inl ((-1 : Int32), M0)))) else (bif decide (swN l1 (2) 9 = 2) then (bif (f_X12_in l1 (0 : Int32) (5 : Int32)) then (gd (mIn l1 2122) (some (.inl ((M0 216 (ix l1)), M0)))) else (some (.inl ((-1 : Int32), M0)))) else (bif decide (swN l1 (2) 9 = 3) then (bif (f_X12_in l1 (0 : Int32) (5 : Int32)) then (gd (mIn l1 2122) (some (.inl ((M0 216 (ix l1)), M0)))) else (some (.inl ((-1 : Int32), M0)))) else (bif decide (swN l1 (2) 9 = 4) then (b1 (f_X12_upOnes M0) (fun v18 => some (.inl (v18, M0)))) else (bif decide (swN l1 (2) 9 = 5) then (b2 (f_X12_borneByAll M0) (fun v20 M20 => some (.inl (v20, M20)))) else (bif decide (swN l1 (2) 9 = 6) then (some (.inl (l2, M0))) else (bif decide (swN l1 (2) 9 = 7) then (some (.inl ((M0 216 (ix (6 : Int32))), M0))) else (bif decide (swN l1 (2) 9 = 8) then (some (.inl ((M0 215 7), M0))) else (bif (f_X12_in l1 (0 : Int32) (5 : Int32)) then (gd (mIn l1 2122) (some (.inl ((M0 216 (ix l1)), M0)))) else (some (.inl ((-1 : Int32), M0))))))))))))) else (b1 (f_X12_of l3 (2 : Int32) M0) (fun v27 => some (.inr ((l2 + v27), (l3 + (1 : Int32)))))))
set_option maxRecDepth 8000 in
theorem e_X12_count_7 {l1 : Int32} {l2 : Int32} {l3 : Int32} {M0 : mM} {R : mZ} {out : ((Int32 × mM) ⊕ (Int32 × Int32))}  (h : f_X12_count_7 l1 l2 l3 M0 = some out) (hk : (∀ s' : Int32 × Int32, out = .inr s' → Ev (8) 336 7 [some (.ref 215), some (.int l1), some (.int s'.1), some (.int s'.2)] [] M0 R) ∧ (∀ e1 : (Int32 × mM), out = .inl e1 → R = emW eI e1)) : Ev (8) 336 7 [some (.ref 215), some (.int l1), some (.int l2), some (.int l3)] [] M0 R := by
  unfold f_X12_count_7 at h
  refine ev_go kc_336 2 (i' := 9) (L' := [some (.ref 215), some (.int l1), some (.int l2), some (.int l3)]) (st' := [.ref 215, .int l3]) (M' := M0) rfl ?_
  obtain ⟨v1, hc1, h⟩ := o_b1 h
  refine ev_cl0 (ins := .invokevirtual 71) kc_336 rfl rfl (a := 190) (as := [.ref 215]) (rest := [.int l3]) rfl rfl (Cs.deep (c_X12_people (M0 := M0) hc1) (by decide)) ?_
  rcases o_bif h with ⟨hb2, h⟩ | ⟨hb2, h⟩
  · refine ev_goT kc_336 1 (t := 20) (e := 11) (L' := [some (.ref 215), some (.int l1), some (.int l2), some (.int l3)]) (st' := []) rfl hb2 ?_
    refine ev_go kc_336 1 (i' := 21) (L' := [some (.ref 215), some (.int l1), some (.int l2), some (.int l3)]) (st' := [.int l1]) (M' := M0) rfl ?_
    rcases o_bif h with ⟨hb3, h⟩ | ⟨hb3, h⟩
    · refine ev_sw kc_336 rfl (n := 9) (t := 22) rfl rfl hb3 rfl rfl ?_
      refine ev_go kc_336 3 (i' := 25) (L' := [some (.ref 215), some (.int l1), some (.int l2), some (.int l3)]) (st' := [.int (2 : Int32), .ref 216]) (M' := M0) rfl ?_
      refine ev_ia kc_336 rfl rfl rfl ?_
      rcases o_bif h with ⟨hb4, h⟩ | ⟨hb4, h⟩
      · refine ev_goT kc_336 2 (t := 33) (e := 28) (L' := [some (.ref 215), some (.int l1), some (.int l2), some (.int l3)]) (st' := []) rfl hb4 ?_
        refine ev_go kc_336 1 (i' := 34) (L' := [some (.ref 215), some (.int l1), some (.int l2), some (.int l3)]) (st' := [.int (-1 : Int32)]) (M' := M0) rfl ?_
        obtain rfl := Option.some.inj h
        rw [show _ from (hk.2 _ rfl)]
        exact ev_ret kc_336 rfl rfl rfl
      · refine ev_goF kc_336 2 (t := 33) (e := 28) (L' := [some (.ref 215), some (.int l1), some (.int l2), some (.int l3)]) (st' := []) rfl hb4 ?_
        refine ev_go kc_336 3 (i' := 31) (L' := [some (.ref 215), some (.int l1), some (.int l2), some (.int l3)]) (st' := [.int (424 : Int32), .ref 216]) (M' := M0) rfl ?_
        refine ev_ia kc_336 rfl rfl rfl ?_
        refine ev_go kc_336 1 (i' := 34) (L' := [some (.ref 215), some (.int l1), some (.int l2), some (.int l3)]) (st' := [.int (M0 216 (ix (424 : Int32)))]) (M' := M0) rfl ?_
        obtain rfl := Option.some.inj h
        rw [show _ from (hk.2 _ rfl)]
        exact ev_ret kc_336 rfl rfl rfl
    rcases o_bif h with ⟨hb5, h⟩ | ⟨hb5, h⟩
    · refine ev_sw kc_336 rfl (n := 9) (t := 51) rfl rfl hb5 rfl rfl ?_
      refine ev_go kc_336 3 (i' := 54) (L' := [some (.ref 215), some (.int l1), some (.int l2), some (.int l3)]) (st' := [.int (5 : Int32), .int (0 : Int32), .int l1]) (M' := M0) rfl ?_
      refine ev_cl0 (ins := .invokestatic 92) kc_336 rfl rfl (a := 182) (as := [.int l1, .int (0 : Int32), .int (5 : Int32)]) (rest := []) rfl rfl (Cs.deep (c_X12_in (M0 := M0)) (by decide)) ?_
      rcases o_bif h with ⟨hb7, h⟩ | ⟨hb7, h⟩
      · refine ev_goF kc_336 1 (t := 61) (e := 56) (L' := [some (.ref 215), some (.int l1), some (.int l2), some (.int l3)]) (st' := []) rfl (mB_e0f hb7) ?_
        refine ev_go kc_336 3 (i' := 59) (L' := [some (.ref 215), some (.int l1), some (.int l2), some (.int l3)]) (st' := [.int l1, .ref 216]) (M' := M0) rfl ?_
        obtain ⟨hg8, h⟩ := o_gd h
        refine ev_ia kc_336 rfl rfl hg8 ?_
        refine ev_go kc_336 1 (i' := 62) (L' := [some (.ref 215), some (.int l1), some (.int l2), some (.int l3)]) (st' := [.int (M0 216 (ix l1))]) (M' := M0) rfl ?_
        obtain rfl := Option.some.inj h
        rw [show _ from (hk.2 _ rfl)]
        exact ev_ret kc_336 rfl rfl rfl
      · refine ev_goT kc_336 1 (t := 61) (e := 56) (L' := [some (.ref 215), some (.int l1), some (.int l2), some (.int l3)]) (st' := []) rfl (mB_e0t hb7) ?_
        refine ev_go kc_336 1 (i' := 62) (L' := [some (.ref 215), some (.int l1), some (.int l2), some (.int l3)]) (st' := [.int (-1 : Int32)]) (M' := M0) rfl ?_
        obtain rfl := Option.some.inj h
        rw [show _ from (hk.2 _ rfl)]
        exact ev_ret kc_336 rfl rfl rfl
    rcases o_bif h with ⟨hb9, h⟩ | ⟨hb9, h⟩
    · refine ev_sw kc_336 rfl (n := 9) (t := 51) rfl rfl hb9 rfl rfl ?_
      refine ev_go kc_336 3 (i' := 54) (L' := [some (.ref 215), some (.int l1), some (.int l2), some (.int l3)]) (st' := [.int (5 : Int32), .int (0 : Int32), .int l1]) (M' := M0) rfl ?_
      refine ev_cl0 (ins := .invokestatic 92) kc_336 rfl rfl (a := 182) (as := [.int l1, .int (0 : Int32), .int (5 : Int32)]) (rest := []) rfl rfl (Cs.deep (c_X12_in (M0 := M0)) (by decide)) ?_
      rcases o_bif h with ⟨hb11, h⟩ | ⟨hb11, h⟩
      · refine ev_goF kc_336 1 (t := 61) (e := 56) (L' := [some (.ref 215), some (.int l1), some (.int l2), some (.int l3)]) (st' := []) rfl (mB_e0f hb11) ?_
        refine ev_go kc_336 3 (i' := 59) (L' := [some (.ref 215), some (.int l1), some (.int l2), some (.int l3)]) (st' := [.int l1, .ref 216]) (M' := M0) rfl ?_
        obtain ⟨hg12, h⟩ := o_gd h
        refine ev_ia kc_336 rfl rfl hg12 ?_
        refine ev_go kc_336 1 (i' := 62) (L' := [some (.ref 215), some (.int l1), some (.int l2), some (.int l3)]) (st' := [.int (M0 216 (ix l1))]) (M' := M0) rfl ?_
        obtain rfl := Option.some.inj h
        rw [show _ from (hk.2 _ rfl)]
        exact ev_ret kc_336 rfl rfl rfl
      · refine ev_goT kc_336 1 (t := 61) (e := 56) (L' := [some (.ref 215), some (.int l1), some (.int l2), some (.int l3)]) (st' := []) rfl (mB_e0t hb11) ?_
        refine ev_go kc_336 1 (i' := 62) (L' := [some (.ref 215), some (.int l1), some (.int l2), some (.int l3)]) (st' := [.int (-1 : Int32)]) (M' := M0) rfl ?_
        obtain rfl := Option.some.inj h
        rw [show _ from (hk.2 _ rfl)]
        exact ev_ret kc_336 rfl rfl rfl
    rcases o_bif h with ⟨hb13, h⟩ | ⟨hb13, h⟩
    · refine ev_sw kc_336 rfl (n := 9) (t := 51) rfl rfl hb13 rfl rfl ?_
      refine ev_go kc_336 3 (i' := 54) (L' := [some (.ref 215), some (.int l1), some (.int l2), some (.int l3)]) (st' := [.int (5 : Int32), .int (0 : Int32), .int l1]) (M' := M0) rfl ?_
      refine ev_cl0 (ins := .invokestatic 92) kc_336 rfl rfl (a := 182) (as := [.int l1, .int (0 : Int32), .int (5 : Int32)]) (rest := []) rfl rfl (Cs.deep (c_X12_in (M0 := M0)) (by decide)) ?_
      rcases o_bif h with ⟨hb15, h⟩ | ⟨hb15, h⟩
      · refine ev_goF kc_336 1 (t := 61) (e := 56) (L' := [some (.ref 215), some (.int l1), some (.int l2), some (.int l3)]) (st' := []) rfl (mB_e0f hb15) ?_
        refine ev_go kc_336 3 (i' := 59) (L' := [some (.ref 215), some (.int l1), some (.int l2), some (.int l3)]) (st' := [.int l1, .ref 216]) (M' := M0) rfl ?_
        obtain ⟨hg16, h⟩ := o_gd h
        refine ev_ia kc_336 rfl rfl hg16 ?_
        refine ev_go kc_336 1 (i' := 62) (L' := [some (.ref 215), some (.int l1), some (.int l2), some (.int l3)]) (st' := [.int (M0 216 (ix l1))]) (M' := M0) rfl ?_
        obtain rfl := Option.some.inj h
        rw [show _ from (hk.2 _ rfl)]
        exact ev_ret kc_336 rfl rfl rfl
      · refine ev_goT kc_336 1 (t := 61) (e := 56) (L' := [some (.ref 215), some (.int l1), some (.int l2), some (.int l3)]) (st' := []) rfl (mB_e0t hb15) ?_
        refine ev_go kc_336 1 (i' := 62) (L' := [some (.ref 215), some (.int l1), some (.int l2), some (.int l3)]) (st' := [.int (-1 : Int32)]) (M' := M0) rfl ?_
        obtain rfl := Option.some.inj h
        rw [show _ from (hk.2 _ rfl)]
        exact ev_ret kc_336 rfl rfl rfl
    rcases o_bif h with ⟨hb17, h⟩ | ⟨hb17, h⟩
    · refine ev_sw kc_336 rfl (n := 9) (t := 35) rfl rfl hb17 rfl rfl ?_
      refine ev_go kc_336 1 (i' := 36) (L' := [some (.ref 215), some (.int l1), some (.int l2), some (.int l3)]) (st' := [.ref 215]) (M' := M0) rfl ?_
      obtain ⟨v18, hc18, h⟩ := o_b1 h
      refine ev_cl0 (ins := .invokevirtual 394) kc_336 rfl rfl (a := 197) (as := [.ref 215]) (rest := []) rfl rfl (Cs.deep (c_X12_upOnes (M0 := M0) hc18) (by decide)) ?_
      obtain rfl := Option.some.inj h
      rw [show _ from (hk.2 _ rfl)]
      exact ev_ret kc_336 rfl rfl rfl
    rcases o_bif h with ⟨hb19, h⟩ | ⟨hb19, h⟩
    · refine ev_sw kc_336 rfl (n := 9) (t := 38) rfl rfl hb19 rfl rfl ?_
      refine ev_go kc_336 1 (i' := 39) (L' := [some (.ref 215), some (.int l1), some (.int l2), some (.int l3)]) (st' := [.ref 215]) (M' := M0) rfl ?_
      obtain ⟨v20, M20, hc20, h⟩ := o_b2 h
      refine ev_cl0 (ins := .invokevirtual 326) kc_336 rfl rfl (a := 206) (as := [.ref 215]) (rest := []) rfl rfl (Cs.deep (c_X12_borneByAll hc20) (by decide)) ?_
      obtain rfl := Option.some.inj h
      rw [show _ from (hk.2 _ rfl)]
      exact ev_ret kc_336 rfl rfl rfl
    rcases o_bif h with ⟨hb21, h⟩ | ⟨hb21, h⟩
    · refine ev_sw kc_336 rfl (n := 9) (t := 41) rfl rfl hb21 rfl rfl ?_
      refine ev_go kc_336 1 (i' := 42) (L' := [some (.ref 215), some (.int l1), some (.int l2), some (.int l3)]) (st' := [.int l2]) (M' := M0) rfl ?_
      obtain rfl := Option.some.inj h
      rw [show _ from (hk.2 _ rfl)]
      exact ev_ret kc_336 rfl rfl rfl
    rcases o_bif h with ⟨hb22, h⟩ | ⟨hb22, h⟩
    · refine ev_sw kc_336 rfl (n := 9) (t := 43) rfl rfl hb22 rfl rfl ?_
      refine ev_go kc_336 3 (i' := 46) (L' := [some (.ref 215), some (.int l1), some (.int l2), some (.int l3)]) (st' := [.int (6 : Int32), .ref 216]) (M' := M0) rfl ?_
      refine ev_ia kc_336 rfl rfl rfl ?_
      obtain rfl := Option.some.inj h
      rw [show _ from (hk.2 _ rfl)]
      exact ev_ret kc_336 rfl rfl rfl
    rcases o_bif h with ⟨hb23, h⟩ | ⟨hb23, h⟩
    · refine ev_sw kc_336 rfl (n := 9) (t := 48) rfl rfl hb23 rfl rfl ?_
      refine ev_go kc_336 2 (i' := 50) (L' := [some (.ref 215), some (.int l1), some (.int l2), some (.int l3)]) (st' := [.int (M0 215 7)]) (M' := M0) rfl ?_
      obtain rfl := Option.some.inj h
      rw [show _ from (hk.2 _ rfl)]
      exact ev_ret kc_336 rfl rfl rfl
    have hsw : swN l1 (2) 9 = 9 := by
      have := swN_le l1 (2) 9
      have hb3 := of_decide_eq_false hb3
      have hb5 := of_decide_eq_false hb5
      have hb9 := of_decide_eq_false hb9
      have hb13 := of_decide_eq_false hb13
      have hb17 := of_decide_eq_false hb17
      have hb19 := of_decide_eq_false hb19
      have hb21 := of_decide_eq_false hb21
      have hb22 := of_decide_eq_false hb22
      have hb23 := of_decide_eq_false hb23
      omega
    refine ev_swD kc_336 rfl (n := 9) rfl rfl hsw ?_
    refine ev_go kc_336 3 (i' := 54) (L' := [some (.ref 215), some (.int l1), some (.int l2), some (.int l3)]) (st' := [.int (5 : Int32), .int (0 : Int32), .int l1]) (M' := M0) rfl ?_
    refine ev_cl0 (ins := .invokestatic 92) kc_336 rfl rfl (a := 182) (as := [.int l1, .int (0 : Int32), .int (5 : Int32)]) (rest := []) rfl rfl (Cs.deep (c_X12_in (M0 := M0)) (by decide)) ?_
    rcases o_bif h with ⟨hb25, h⟩ | ⟨hb25, h⟩
    · refine ev_goF kc_336 1 (t := 61) (e := 56) (L' := [some (.ref 215), some (.int l1), some (.int l2), some (.int l3)]) (st' := []) rfl (mB_e0f hb25) ?_
      refine ev_go kc_336 3 (i' := 59) (L' := [some (.ref 215), some (.int l1), some (.int l2), some (.int l3)]) (st' := [.int l1, .ref 216]) (M' := M0) rfl ?_
      obtain ⟨hg26, h⟩ := o_gd h
      refine ev_ia kc_336 rfl rfl hg26 ?_
      refine ev_go kc_336 1 (i' := 62) (L' := [some (.ref 215), some (.int l1), some (.int l2), some (.int l3)]) (st' := [.int (M0 216 (ix l1))]) (M' := M0) rfl ?_
      obtain rfl := Option.some.inj h
      rw [show _ from (hk.2 _ rfl)]
      exact ev_ret kc_336 rfl rfl rfl
    · refine ev_goT kc_336 1 (t := 61) (e := 56) (L' := [some (.ref 215), some (.int l1), some (.int l2), some (.int l3)]) (st' := []) rfl (mB_e0t hb25) ?_
      refine ev_go kc_336 1 (i' := 62) (L' := [some (.ref 215), some (.int l1), some (.int l2), some (.int l3)]) (st' := [.int (-1 : Int32)]) (M' := M0) rfl ?_
      obtain rfl := Option.some.inj h
      rw [show _ from (hk.2 _ rfl)]
      exact ev_ret kc_336 rfl rfl rfl
  · refine ev_goF kc_336 1 (t := 20) (e := 11) (L' := [some (.ref 215), some (.int l1), some (.int l2), some (.int l3)]) (st' := []) rfl hb2 ?_
    refine ev_go kc_336 4 (i' := 15) (L' := [some (.ref 215), some (.int l1), some (.int l2), some (.int l3)]) (st' := [.int (2 : Int32), .int l3, .ref 215, .int l2]) (M' := M0) rfl ?_
    obtain ⟨v27, hc27, h⟩ := o_b1 h
    refine ev_cl0 (ins := .invokevirtual 79) kc_336 rfl rfl (a := 193) (as := [.ref 215, .int l3, .int (2 : Int32)]) (rest := [.int l2]) rfl rfl (Cs.deep (c_X12_of (M0 := M0) hc27) (by decide)) ?_
    refine ev_go kc_336 4 (i' := 7) (L' := [some (.ref 215), some (.int l1), some (.int (l2 + v27)), some (.int (l3 + (1 : Int32)))]) (st' := []) (M' := M0) rfl ?_
    obtain rfl := Option.some.inj h
    exact Ev.forget (mLe.kp (mLe.kp (mLe.kp (mLe.kp mLe.nl)))) (hk.1 ((l2 + v27), (l3 + (1 : Int32))) rfl)
def f_X12_count_l7 (l1 : Int32) (l2 : Int32) (l3 : Int32) (M0 : mM) : Option (Int32 × mM) :=
  wh 100000 (fun s : Int32 × Int32 => f_X12_count_7 l1 s.1 s.2 M0) (l2, l3)
theorem e_X12_count_l7 {l1 : Int32} {l2 : Int32} {l3 : Int32} {M0 : mM} {R : mZ} {out : (Int32 × mM)}  (h : f_X12_count_l7 l1 l2 l3 M0 = some out) (hk : R = emW eI out) : Ev (8) 336 7 [some (.ref 215), some (.int l1), some (.int l2), some (.int l3)] [] M0 R := by
  unfold f_X12_count_l7 at h
  exact wh_ev (P := fun s : Int32 × Int32 => Ev (8) 336 7 [some (.ref 215), some (.int l1), some (.int s.1), some (.int s.2)] [] M0 R) (Q := fun e : (Int32 × mM) => R = emW eI e) (fun s o hb h1 h2 => e_X12_count_7  hb ⟨h1, h2⟩) 100000 _ _ h hk
def f_X12_count (p1 : Int32) (M0 : mM) : Option (Int32 × mM) :=
  wr (mst M0 215 0 (0 : Int32)) (fun M28 => f_X12_count_l7 p1 (0 : Int32) (0 : Int32) M28)
set_option maxRecDepth 8000 in
theorem c_X12_count {p1 : Int32} {M0 : mM} {out : (Int32 × mM)} (h : f_X12_count p1 M0 = some out) : Cs (8) 336 [.ref 215, .int p1] M0 (emW eI out) := by
  generalize hk : emW eI out = R
  replace hk := hk.symm
  unfold f_X12_count at h
  show Ev (8) 336 0 [some (.ref 215), some (.int p1), none, none] [] M0 R
  refine ev_go kc_336 2 (i' := 2) (L' := [some (.ref 215), some (.int p1), none, none]) (st' := [.int (0 : Int32), .ref 215]) (M' := M0) rfl ?_
  obtain ⟨M28, hM28, h⟩ := o_wr h
  refine ev_pf kc_336 rfl rfl rfl rfl (fun hc => absurd hc (by decide)) hM28 ?_
  refine ev_go kc_336 4 (i' := 7) (L' := [some (.ref 215), some (.int p1), some (.int (0 : Int32)), some (.int (0 : Int32))]) (st' := []) (M' := M28) rfl ?_
  exact Ev.forget (mLe.kp (mLe.kp (mLe.kp (mLe.kp mLe.nl)))) (e_X12_count_l7  h hk)
/-- WakeTowerLaw.tower(LWakeTower;[J)I: 337, H -/
theorem kc_337 : mKc 337 = k_L_tower := rfl
def f_L_tower  (M0 : mM) : Option (Int32 × mM × Nat) :=
  th (f_X11_tower M0) (fun v1 M1 => wr (mst M1 231 (ix (0 : Int32)) v1) (fun M2 => some ((0 : Int32), M2, 0))) (fun E1 M1 => bif Nat.beq E1 0 then (some ((1 : Int32), M1, 1)) else (bif Nat.beq E1 1 then (some ((2 : Int32), M1, 1)) else (none)))
set_option maxRecDepth 8000 in
theorem c_L_tower  {M0 : mM} {out : (Int32 × mM × Nat)} (h : f_L_tower M0 = some out) : Cs (14) 337 [.ref 0, .ref 231] M0 (emH eI out) := by
  generalize hk : emH eI out = R
  replace hk := hk.symm
  unfold f_L_tower at h
  show Ev (14) 337 0 [some (.ref 0), some (.ref 231), none] [] M0 R
  refine ev_go kc_337 3 (i' := 3) (L' := [some (.ref 0), some (.ref 231), none]) (st' := [.ref 0, .int (0 : Int32), .ref 231]) (M' := M0) rfl ?_
  rcases o_th h with ⟨v1, M1, hc1, h⟩ | ⟨E1, M1, hc1, h⟩
  · refine ev_cl0 (ins := .invokevirtual 7) kc_337 rfl rfl (a := 107) (as := [.ref 0]) (rest := [.int (0 : Int32), .ref 231]) rfl rfl (Cs.deep (c_X11_tower hc1) (by decide)) ?_
    refine ev_go kc_337 1 (i' := 5) (L' := [some (.ref 0), some (.ref 231), none]) (st' := [.long (v1).toInt64, .int (0 : Int32), .ref 231]) (M' := M1) rfl ?_
    obtain ⟨M2, hM2, h⟩ := o_wr h
    refine ev_ls kc_337 rfl rfl rfl hM2 ?_
    refine ev_go kc_337 2 (i' := 14) (L' := [some (.ref 0), some (.ref 231), none]) (st' := [.int (0 : Int32)]) (M' := M2) rfl ?_
    obtain rfl := Option.some.inj h
    rw [hk]
    exact ev_ret kc_337 rfl rfl rfl
  ·
    rcases o_bif h with ⟨hb3, h⟩ | ⟨hb3, h⟩
    · obtain rfl := Nat.eq_of_beq_eq_true hb3
      obtain rfl := Option.some.inj h
      rw [hk]
      refine ev_clH (ins := .invokevirtual 7) (k1 := 1) (k2 := 0) (h := 7) (q := 2) kc_337 rfl rfl (a := 107) (as := [.ref 0]) (rest := [.int (0 : Int32), .ref 231]) rfl rfl rfl rfl rfl rfl (Cs.deep (c_X11_tower hc1) (by decide)) ?_
      refine ev_go kc_337 1 (i' := 9) (L' := [some (.ref 0), some (.ref 231), none]) (st' := [.int (1 : Int32)]) (M' := M1) rfl ?_
      exact ev_ret kc_337 rfl rfl rfl
    rcases o_bif h with ⟨hb4, h⟩ | ⟨hb4, h⟩
    · obtain rfl := Nat.eq_of_beq_eq_true hb4
      obtain rfl := Option.some.inj h
      rw [hk]
      refine ev_clH (ins := .invokevirtual 7) (k1 := 1) (k2 := 0) (h := 10) (q := 2) kc_337 rfl rfl (a := 107) (as := [.ref 0]) (rest := [.int (0 : Int32), .ref 231]) rfl rfl rfl rfl rfl rfl (Cs.deep (c_X11_tower hc1) (by decide)) ?_
      refine ev_go kc_337 1 (i' := 12) (L' := [some (.ref 0), some (.ref 231), none]) (st' := [.int (2 : Int32)]) (M' := M1) rfl ?_
      exact ev_ret kc_337 rfl rfl rfl
    cases h
/-- WakeTowerLaw.person(LWakeTower;II[J)I: 339, H -/
theorem kc_339 : mKc 339 = k_L_person := rfl
def f_L_person (p1 : Int32) (p2 : Int32) (M0 : mM) : Option (Int32 × mM × Nat) :=
  th (f_X11_person p1 p2 M0) (fun v1 M1 => wr (mst M1 231 (ix (0 : Int32)) v1) (fun M2 => some ((0 : Int32), M2, 0))) (fun E1 M1 => bif Nat.beq E1 2 then (some ((1 : Int32), M1, 1)) else (bif Nat.beq E1 3 then (some ((2 : Int32), M1, 1)) else (none)))
set_option maxRecDepth 8000 in
theorem c_L_person {p1 : Int32} {p2 : Int32} {M0 : mM} {out : (Int32 × mM × Nat)} (h : f_L_person p1 p2 M0 = some out) : Cs (11) 339 [.ref 0, .int p1, .int p2, .ref 231] M0 (emH eI out) := by
  generalize hk : emH eI out = R
  replace hk := hk.symm
  unfold f_L_person at h
  show Ev (11) 339 0 [some (.ref 0), some (.int p1), some (.int p2), some (.ref 231), none] [] M0 R
  refine ev_go kc_339 5 (i' := 5) (L' := [some (.ref 0), some (.int p1), some (.int p2), some (.ref 231), none]) (st' := [.int p2, .int p1, .ref 0, .int (0 : Int32), .ref 231]) (M' := M0) rfl ?_
  rcases o_th h with ⟨v1, M1, hc1, h⟩ | ⟨E1, M1, hc1, h⟩
  · refine ev_cl0 (ins := .invokevirtual 20) kc_339 rfl rfl (a := 110) (as := [.ref 0, .int p1, .int p2]) (rest := [.int (0 : Int32), .ref 231]) rfl rfl (Cs.deep (c_X11_person hc1) (by decide)) ?_
    refine ev_go kc_339 1 (i' := 7) (L' := [some (.ref 0), some (.int p1), some (.int p2), some (.ref 231), none]) (st' := [.long (v1).toInt64, .int (0 : Int32), .ref 231]) (M' := M1) rfl ?_
    obtain ⟨M2, hM2, h⟩ := o_wr h
    refine ev_ls kc_339 rfl rfl rfl hM2 ?_
    refine ev_go kc_339 2 (i' := 16) (L' := [some (.ref 0), some (.int p1), some (.int p2), some (.ref 231), none]) (st' := [.int (0 : Int32)]) (M' := M2) rfl ?_
    obtain rfl := Option.some.inj h
    rw [hk]
    exact ev_ret kc_339 rfl rfl rfl
  ·
    rcases o_bif h with ⟨hb3, h⟩ | ⟨hb3, h⟩
    · obtain rfl := Nat.eq_of_beq_eq_true hb3
      obtain rfl := Option.some.inj h
      rw [hk]
      refine ev_clH (ins := .invokevirtual 20) (k1 := 1) (k2 := 0) (h := 9) (q := 4) kc_339 rfl rfl (a := 110) (as := [.ref 0, .int p1, .int p2]) (rest := [.int (0 : Int32), .ref 231]) rfl rfl rfl rfl rfl rfl (Cs.deep (c_X11_person hc1) (by decide)) ?_
      refine ev_go kc_339 1 (i' := 11) (L' := [some (.ref 0), some (.int p1), some (.int p2), some (.ref 231), none]) (st' := [.int (1 : Int32)]) (M' := M1) rfl ?_
      exact ev_ret kc_339 rfl rfl rfl
    rcases o_bif h with ⟨hb4, h⟩ | ⟨hb4, h⟩
    · obtain rfl := Nat.eq_of_beq_eq_true hb4
      obtain rfl := Option.some.inj h
      rw [hk]
      refine ev_clH (ins := .invokevirtual 20) (k1 := 1) (k2 := 0) (h := 12) (q := 4) kc_339 rfl rfl (a := 110) (as := [.ref 0, .int p1, .int p2]) (rest := [.int (0 : Int32), .ref 231]) rfl rfl rfl rfl rfl rfl (Cs.deep (c_X11_person hc1) (by decide)) ?_
      refine ev_go kc_339 1 (i' := 14) (L' := [some (.ref 0), some (.int p1), some (.int p2), some (.ref 231), none]) (st' := [.int (2 : Int32)]) (M' := M1) rfl ?_
      exact ev_ret kc_339 rfl rfl rfl
    cases h
/-- WakeTowerLaw.hours(LWakeTower;I[J)I: 340, H -/
theorem kc_340 : mKc 340 = k_L_hours := rfl
def f_L_hours (p1 : Int32) (M0 : mM) : Option (Int32 × mM × Nat) :=
  th (f_X11_hours p1 M0) (fun v1 M1 => wr (mst M1 231 (ix (0 : Int32)) v1) (fun M2 => some ((0 : Int32), M2, 0))) (fun E1 M1 => bif Nat.beq E1 0 then (some ((1 : Int32), M1, 1)) else (none))
set_option maxRecDepth 8000 in
theorem c_L_hours {p1 : Int32} {M0 : mM} {out : (Int32 × mM × Nat)} (h : f_L_hours p1 M0 = some out) : Cs (14) 340 [.ref 0, .int p1, .ref 231] M0 (emH eI out) := by
  generalize hk : emH eI out = R
  replace hk := hk.symm
  unfold f_L_hours at h
  show Ev (14) 340 0 [some (.ref 0), some (.int p1), some (.ref 231), none] [] M0 R
  refine ev_go kc_340 4 (i' := 4) (L' := [some (.ref 0), some (.int p1), some (.ref 231), none]) (st' := [.int p1, .ref 0, .int (0 : Int32), .ref 231]) (M' := M0) rfl ?_
  rcases o_th h with ⟨v1, M1, hc1, h⟩ | ⟨E1, M1, hc1, h⟩
  · refine ev_cl0 (ins := .invokevirtual 28) kc_340 rfl rfl (a := 112) (as := [.ref 0, .int p1]) (rest := [.int (0 : Int32), .ref 231]) rfl rfl (Cs.deep (c_X11_hours hc1) (by decide)) ?_
    refine ev_go kc_340 1 (i' := 6) (L' := [some (.ref 0), some (.int p1), some (.ref 231), none]) (st' := [.long (v1).toInt64, .int (0 : Int32), .ref 231]) (M' := M1) rfl ?_
    obtain ⟨M2, hM2, h⟩ := o_wr h
    refine ev_ls kc_340 rfl rfl rfl hM2 ?_
    refine ev_go kc_340 2 (i' := 12) (L' := [some (.ref 0), some (.int p1), some (.ref 231), none]) (st' := [.int (0 : Int32)]) (M' := M2) rfl ?_
    obtain rfl := Option.some.inj h
    rw [hk]
    exact ev_ret kc_340 rfl rfl rfl
  ·
    rcases o_bif h with ⟨hb3, h⟩ | ⟨hb3, h⟩
    · obtain rfl := Nat.eq_of_beq_eq_true hb3
      obtain rfl := Option.some.inj h
      rw [hk]
      refine ev_clH (ins := .invokevirtual 28) (k1 := 1) (k2 := 0) (h := 8) (q := 3) kc_340 rfl rfl (a := 112) (as := [.ref 0, .int p1]) (rest := [.int (0 : Int32), .ref 231]) rfl rfl rfl rfl rfl rfl (Cs.deep (c_X11_hours hc1) (by decide)) ?_
      refine ev_go kc_340 1 (i' := 10) (L' := [some (.ref 0), some (.int p1), some (.ref 231), none]) (st' := [.int (1 : Int32)]) (M' := M1) rfl ?_
      exact ev_ret kc_340 rfl rfl rfl
    cases h
/-- WakeTowerLaw.rise(LWakeTower;III[J)I: 341, H -/
theorem kc_341 : mKc 341 = k_L_rise := rfl
def f_L_rise (p1 : Int32) (p2 : Int32) (p3 : Int32) (M0 : mM) : Option (Int32 × mM × Nat) :=
  th (f_X11_rise p1 p2 p3 M0) (fun v1 M1 => wr (mst M1 231 (ix (0 : Int32)) v1) (fun M2 => some ((0 : Int32), M2, 0))) (fun E1 M1 => bif Nat.beq E1 2 then (some ((1 : Int32), M1, 1)) else (bif Nat.beq E1 4 then (some ((2 : Int32), M1, 1)) else (none)))
set_option maxRecDepth 8000 in
theorem c_L_rise {p1 : Int32} {p2 : Int32} {p3 : Int32} {M0 : mM} {out : (Int32 × mM × Nat)} (h : f_L_rise p1 p2 p3 M0 = some out) : Cs (13) 341 [.ref 0, .int p1, .int p2, .int p3, .ref 231] M0 (emH eI out) := by
  generalize hk : emH eI out = R
  replace hk := hk.symm
  unfold f_L_rise at h
  show Ev (13) 341 0 [some (.ref 0), some (.int p1), some (.int p2), some (.int p3), some (.ref 231), none] [] M0 R
  refine ev_go kc_341 6 (i' := 6) (L' := [some (.ref 0), some (.int p1), some (.int p2), some (.int p3), some (.ref 231), none]) (st' := [.int p3, .int p2, .int p1, .ref 0, .int (0 : Int32), .ref 231]) (M' := M0) rfl ?_
  rcases o_th h with ⟨v1, M1, hc1, h⟩ | ⟨E1, M1, hc1, h⟩
  · refine ev_cl0 (ins := .invokevirtual 32) kc_341 rfl rfl (a := 113) (as := [.ref 0, .int p1, .int p2, .int p3]) (rest := [.int (0 : Int32), .ref 231]) rfl rfl (Cs.deep (c_X11_rise hc1) (by decide)) ?_
    refine ev_go kc_341 1 (i' := 8) (L' := [some (.ref 0), some (.int p1), some (.int p2), some (.int p3), some (.ref 231), none]) (st' := [.long (v1).toInt64, .int (0 : Int32), .ref 231]) (M' := M1) rfl ?_
    obtain ⟨M2, hM2, h⟩ := o_wr h
    refine ev_ls kc_341 rfl rfl rfl hM2 ?_
    refine ev_go kc_341 2 (i' := 17) (L' := [some (.ref 0), some (.int p1), some (.int p2), some (.int p3), some (.ref 231), none]) (st' := [.int (0 : Int32)]) (M' := M2) rfl ?_
    obtain rfl := Option.some.inj h
    rw [hk]
    exact ev_ret kc_341 rfl rfl rfl
  ·
    rcases o_bif h with ⟨hb3, h⟩ | ⟨hb3, h⟩
    · obtain rfl := Nat.eq_of_beq_eq_true hb3
      obtain rfl := Option.some.inj h
      rw [hk]
      refine ev_clH (ins := .invokevirtual 32) (k1 := 1) (k2 := 0) (h := 10) (q := 5) kc_341 rfl rfl (a := 113) (as := [.ref 0, .int p1, .int p2, .int p3]) (rest := [.int (0 : Int32), .ref 231]) rfl rfl rfl rfl rfl rfl (Cs.deep (c_X11_rise hc1) (by decide)) ?_
      refine ev_go kc_341 1 (i' := 12) (L' := [some (.ref 0), some (.int p1), some (.int p2), some (.int p3), some (.ref 231), none]) (st' := [.int (1 : Int32)]) (M' := M1) rfl ?_
      exact ev_ret kc_341 rfl rfl rfl
    rcases o_bif h with ⟨hb4, h⟩ | ⟨hb4, h⟩
    · obtain rfl := Nat.eq_of_beq_eq_true hb4
      obtain rfl := Option.some.inj h
      rw [hk]
      refine ev_clH (ins := .invokevirtual 32) (k1 := 1) (k2 := 0) (h := 13) (q := 5) kc_341 rfl rfl (a := 113) (as := [.ref 0, .int p1, .int p2, .int p3]) (rest := [.int (0 : Int32), .ref 231]) rfl rfl rfl rfl rfl rfl (Cs.deep (c_X11_rise hc1) (by decide)) ?_
      refine ev_go kc_341 1 (i' := 15) (L' := [some (.ref 0), some (.int p1), some (.int p2), some (.int p3), some (.ref 231), none]) (st' := [.int (2 : Int32)]) (M' := M1) rfl ?_
      exact ev_ret kc_341 rfl rfl rfl
    cases h
/-- WakeTowerLaw.out(LWakeTower;I[J)I: 342, H -/
theorem kc_342 : mKc 342 = k_L_out := rfl
def f_L_out (p1 : Int32) (M0 : mM) : Option (Int32 × mM × Nat) :=
  th (f_X11_out p1 M0) (fun v1 M1 => wr (mst M1 231 (ix (0 : Int32)) v1) (fun M2 => some ((0 : Int32), M2, 0))) (fun E1 M1 => bif Nat.beq E1 2 then (some ((1 : Int32), M1, 1)) else (bif Nat.beq E1 4 then (some ((2 : Int32), M1, 1)) else (none)))
set_option maxRecDepth 8000 in
theorem c_L_out {p1 : Int32} {M0 : mM} {out : (Int32 × mM × Nat)} (h : f_L_out p1 M0 = some out) : Cs (13) 342 [.ref 0, .int p1, .ref 231] M0 (emH eI out) := by
  generalize hk : emH eI out = R
  replace hk := hk.symm
  unfold f_L_out at h
  show Ev (13) 342 0 [some (.ref 0), some (.int p1), some (.ref 231), none] [] M0 R
  refine ev_go kc_342 4 (i' := 4) (L' := [some (.ref 0), some (.int p1), some (.ref 231), none]) (st' := [.int p1, .ref 0, .int (0 : Int32), .ref 231]) (M' := M0) rfl ?_
  rcases o_th h with ⟨v1, M1, hc1, h⟩ | ⟨E1, M1, hc1, h⟩
  · refine ev_cl0 (ins := .invokevirtual 38) kc_342 rfl rfl (a := 114) (as := [.ref 0, .int p1]) (rest := [.int (0 : Int32), .ref 231]) rfl rfl (Cs.deep (c_X11_out hc1) (by decide)) ?_
    refine ev_go kc_342 1 (i' := 6) (L' := [some (.ref 0), some (.int p1), some (.ref 231), none]) (st' := [.long (v1).toInt64, .int (0 : Int32), .ref 231]) (M' := M1) rfl ?_
    obtain ⟨M2, hM2, h⟩ := o_wr h
    refine ev_ls kc_342 rfl rfl rfl hM2 ?_
    refine ev_go kc_342 2 (i' := 15) (L' := [some (.ref 0), some (.int p1), some (.ref 231), none]) (st' := [.int (0 : Int32)]) (M' := M2) rfl ?_
    obtain rfl := Option.some.inj h
    rw [hk]
    exact ev_ret kc_342 rfl rfl rfl
  ·
    rcases o_bif h with ⟨hb3, h⟩ | ⟨hb3, h⟩
    · obtain rfl := Nat.eq_of_beq_eq_true hb3
      obtain rfl := Option.some.inj h
      rw [hk]
      refine ev_clH (ins := .invokevirtual 38) (k1 := 1) (k2 := 0) (h := 8) (q := 3) kc_342 rfl rfl (a := 114) (as := [.ref 0, .int p1]) (rest := [.int (0 : Int32), .ref 231]) rfl rfl rfl rfl rfl rfl (Cs.deep (c_X11_out hc1) (by decide)) ?_
      refine ev_go kc_342 1 (i' := 10) (L' := [some (.ref 0), some (.int p1), some (.ref 231), none]) (st' := [.int (1 : Int32)]) (M' := M1) rfl ?_
      exact ev_ret kc_342 rfl rfl rfl
    rcases o_bif h with ⟨hb4, h⟩ | ⟨hb4, h⟩
    · obtain rfl := Nat.eq_of_beq_eq_true hb4
      obtain rfl := Option.some.inj h
      rw [hk]
      refine ev_clH (ins := .invokevirtual 38) (k1 := 1) (k2 := 0) (h := 11) (q := 3) kc_342 rfl rfl (a := 114) (as := [.ref 0, .int p1]) (rest := [.int (0 : Int32), .ref 231]) rfl rfl rfl rfl rfl rfl (Cs.deep (c_X11_out hc1) (by decide)) ?_
      refine ev_go kc_342 1 (i' := 13) (L' := [some (.ref 0), some (.int p1), some (.ref 231), none]) (st' := [.int (2 : Int32)]) (M' := M1) rfl ?_
      exact ev_ret kc_342 rfl rfl rfl
    cases h
/-- WakeTowerLaw.relieve(LWakeTower;II[J)I: 343, H -/
theorem kc_343 : mKc 343 = k_L_relieve := rfl
def f_L_relieve (p1 : Int32) (p2 : Int32) (M0 : mM) : Option (Int32 × mM × Nat) :=
  th (f_X11_relieve p1 p2 M0) (fun v1 M1 => wr (mst M1 231 (ix (0 : Int32)) v1) (fun M2 => some ((0 : Int32), M2, 0))) (fun E1 M1 => bif Nat.beq E1 2 then (some ((1 : Int32), M1, 1)) else (bif Nat.beq E1 0 then (some ((2 : Int32), M1, 1)) else (bif Nat.beq E1 4 then (some ((3 : Int32), M1, 1)) else (none))))
set_option maxRecDepth 8000 in
theorem c_L_relieve {p1 : Int32} {p2 : Int32} {M0 : mM} {out : (Int32 × mM × Nat)} (h : f_L_relieve p1 p2 M0 = some out) : Cs (13) 343 [.ref 0, .int p1, .int p2, .ref 231] M0 (emH eI out) := by
  generalize hk : emH eI out = R
  replace hk := hk.symm
  unfold f_L_relieve at h
  show Ev (13) 343 0 [some (.ref 0), some (.int p1), some (.int p2), some (.ref 231), none] [] M0 R
  refine ev_go kc_343 5 (i' := 5) (L' := [some (.ref 0), some (.int p1), some (.int p2), some (.ref 231), none]) (st' := [.int p2, .int p1, .ref 0, .int (0 : Int32), .ref 231]) (M' := M0) rfl ?_
  rcases o_th h with ⟨v1, M1, hc1, h⟩ | ⟨E1, M1, hc1, h⟩
  · refine ev_cl0 (ins := .invokevirtual 41) kc_343 rfl rfl (a := 115) (as := [.ref 0, .int p1, .int p2]) (rest := [.int (0 : Int32), .ref 231]) rfl rfl (Cs.deep (c_X11_relieve hc1) (by decide)) ?_
    refine ev_go kc_343 1 (i' := 7) (L' := [some (.ref 0), some (.int p1), some (.int p2), some (.ref 231), none]) (st' := [.long (v1).toInt64, .int (0 : Int32), .ref 231]) (M' := M1) rfl ?_
    obtain ⟨M2, hM2, h⟩ := o_wr h
    refine ev_ls kc_343 rfl rfl rfl hM2 ?_
    refine ev_go kc_343 2 (i' := 19) (L' := [some (.ref 0), some (.int p1), some (.int p2), some (.ref 231), none]) (st' := [.int (0 : Int32)]) (M' := M2) rfl ?_
    obtain rfl := Option.some.inj h
    rw [hk]
    exact ev_ret kc_343 rfl rfl rfl
  ·
    rcases o_bif h with ⟨hb3, h⟩ | ⟨hb3, h⟩
    · obtain rfl := Nat.eq_of_beq_eq_true hb3
      obtain rfl := Option.some.inj h
      rw [hk]
      refine ev_clH (ins := .invokevirtual 41) (k1 := 1) (k2 := 0) (h := 9) (q := 4) kc_343 rfl rfl (a := 115) (as := [.ref 0, .int p1, .int p2]) (rest := [.int (0 : Int32), .ref 231]) rfl rfl rfl rfl rfl rfl (Cs.deep (c_X11_relieve hc1) (by decide)) ?_
      refine ev_go kc_343 1 (i' := 11) (L' := [some (.ref 0), some (.int p1), some (.int p2), some (.ref 231), none]) (st' := [.int (1 : Int32)]) (M' := M1) rfl ?_
      exact ev_ret kc_343 rfl rfl rfl
    rcases o_bif h with ⟨hb4, h⟩ | ⟨hb4, h⟩
    · obtain rfl := Nat.eq_of_beq_eq_true hb4
      obtain rfl := Option.some.inj h
      rw [hk]
      refine ev_clH (ins := .invokevirtual 41) (k1 := 1) (k2 := 0) (h := 12) (q := 4) kc_343 rfl rfl (a := 115) (as := [.ref 0, .int p1, .int p2]) (rest := [.int (0 : Int32), .ref 231]) rfl rfl rfl rfl rfl rfl (Cs.deep (c_X11_relieve hc1) (by decide)) ?_
      refine ev_go kc_343 1 (i' := 14) (L' := [some (.ref 0), some (.int p1), some (.int p2), some (.ref 231), none]) (st' := [.int (2 : Int32)]) (M' := M1) rfl ?_
      exact ev_ret kc_343 rfl rfl rfl
    rcases o_bif h with ⟨hb5, h⟩ | ⟨hb5, h⟩
    · obtain rfl := Nat.eq_of_beq_eq_true hb5
      obtain rfl := Option.some.inj h
      rw [hk]
      refine ev_clH (ins := .invokevirtual 41) (k1 := 1) (k2 := 0) (h := 15) (q := 4) kc_343 rfl rfl (a := 115) (as := [.ref 0, .int p1, .int p2]) (rest := [.int (0 : Int32), .ref 231]) rfl rfl rfl rfl rfl rfl (Cs.deep (c_X11_relieve hc1) (by decide)) ?_
      refine ev_go kc_343 1 (i' := 17) (L' := [some (.ref 0), some (.int p1), some (.int p2), some (.ref 231), none]) (st' := [.int (3 : Int32)]) (M' := M1) rfl ?_
      exact ev_ret kc_343 rfl rfl rfl
    cases h
/-- WakeTowerLaw.lean(LWakeTower;II[J)I: 344, H -/
theorem kc_344 : mKc 344 = k_L_lean := rfl
def f_L_lean (p1 : Int32) (p2 : Int32) (M0 : mM) : Option (Int32 × mM × Nat) :=
  th (f_X11_lean p1 p2 M0) (fun v1 M1 => wr (mst M1 231 (ix (0 : Int32)) v1) (fun M2 => some ((0 : Int32), M2, 0))) (fun E1 M1 => bif Nat.beq E1 2 then (some ((1 : Int32), M1, 1)) else (bif Nat.beq E1 4 then (some ((2 : Int32), M1, 1)) else (none)))
set_option maxRecDepth 8000 in
theorem c_L_lean {p1 : Int32} {p2 : Int32} {M0 : mM} {out : (Int32 × mM × Nat)} (h : f_L_lean p1 p2 M0 = some out) : Cs (13) 344 [.ref 0, .int p1, .int p2, .ref 231] M0 (emH eI out) := by
  generalize hk : emH eI out = R
  replace hk := hk.symm
  unfold f_L_lean at h
  show Ev (13) 344 0 [some (.ref 0), some (.int p1), some (.int p2), some (.ref 231), none] [] M0 R
  refine ev_go kc_344 5 (i' := 5) (L' := [some (.ref 0), some (.int p1), some (.int p2), some (.ref 231), none]) (st' := [.int p2, .int p1, .ref 0, .int (0 : Int32), .ref 231]) (M' := M0) rfl ?_
  rcases o_th h with ⟨v1, M1, hc1, h⟩ | ⟨E1, M1, hc1, h⟩
  · refine ev_cl0 (ins := .invokevirtual 44) kc_344 rfl rfl (a := 116) (as := [.ref 0, .int p1, .int p2]) (rest := [.int (0 : Int32), .ref 231]) rfl rfl (Cs.deep (c_X11_lean hc1) (by decide)) ?_
    refine ev_go kc_344 1 (i' := 7) (L' := [some (.ref 0), some (.int p1), some (.int p2), some (.ref 231), none]) (st' := [.long (v1).toInt64, .int (0 : Int32), .ref 231]) (M' := M1) rfl ?_
    obtain ⟨M2, hM2, h⟩ := o_wr h
    refine ev_ls kc_344 rfl rfl rfl hM2 ?_
    refine ev_go kc_344 2 (i' := 16) (L' := [some (.ref 0), some (.int p1), some (.int p2), some (.ref 231), none]) (st' := [.int (0 : Int32)]) (M' := M2) rfl ?_
    obtain rfl := Option.some.inj h
    rw [hk]
    exact ev_ret kc_344 rfl rfl rfl
  ·
    rcases o_bif h with ⟨hb3, h⟩ | ⟨hb3, h⟩
    · obtain rfl := Nat.eq_of_beq_eq_true hb3
      obtain rfl := Option.some.inj h
      rw [hk]
      refine ev_clH (ins := .invokevirtual 44) (k1 := 1) (k2 := 0) (h := 9) (q := 4) kc_344 rfl rfl (a := 116) (as := [.ref 0, .int p1, .int p2]) (rest := [.int (0 : Int32), .ref 231]) rfl rfl rfl rfl rfl rfl (Cs.deep (c_X11_lean hc1) (by decide)) ?_
      refine ev_go kc_344 1 (i' := 11) (L' := [some (.ref 0), some (.int p1), some (.int p2), some (.ref 231), none]) (st' := [.int (1 : Int32)]) (M' := M1) rfl ?_
      exact ev_ret kc_344 rfl rfl rfl
    rcases o_bif h with ⟨hb4, h⟩ | ⟨hb4, h⟩
    · obtain rfl := Nat.eq_of_beq_eq_true hb4
      obtain rfl := Option.some.inj h
      rw [hk]
      refine ev_clH (ins := .invokevirtual 44) (k1 := 1) (k2 := 0) (h := 12) (q := 4) kc_344 rfl rfl (a := 116) (as := [.ref 0, .int p1, .int p2]) (rest := [.int (0 : Int32), .ref 231]) rfl rfl rfl rfl rfl rfl (Cs.deep (c_X11_lean hc1) (by decide)) ?_
      refine ev_go kc_344 1 (i' := 14) (L' := [some (.ref 0), some (.int p1), some (.int p2), some (.ref 231), none]) (st' := [.int (2 : Int32)]) (M' := M1) rfl ?_
      exact ev_ret kc_344 rfl rfl rfl
    cases h
/-- WakeTowerLaw.wake(LWakeTower;I[J)I: 345, H -/
theorem kc_345 : mKc 345 = k_L_wake := rfl
def f_L_wake (p1 : Int32) (M0 : mM) : Option (Int32 × mM × Nat) :=
  th (f_X11_wake p1 M0) (fun v1 M1 => wr (mst M1 231 (ix (0 : Int32)) v1) (fun M2 => some ((0 : Int32), M2, 0))) (fun E1 M1 => bif Nat.beq E1 2 then (some ((1 : Int32), M1, 1)) else (bif Nat.beq E1 4 then (some ((2 : Int32), M1, 1)) else (none)))
set_option maxRecDepth 8000 in
theorem c_L_wake {p1 : Int32} {M0 : mM} {out : (Int32 × mM × Nat)} (h : f_L_wake p1 M0 = some out) : Cs (13) 345 [.ref 0, .int p1, .ref 231] M0 (emH eI out) := by
  generalize hk : emH eI out = R
  replace hk := hk.symm
  unfold f_L_wake at h
  show Ev (13) 345 0 [some (.ref 0), some (.int p1), some (.ref 231), none] [] M0 R
  refine ev_go kc_345 4 (i' := 4) (L' := [some (.ref 0), some (.int p1), some (.ref 231), none]) (st' := [.int p1, .ref 0, .int (0 : Int32), .ref 231]) (M' := M0) rfl ?_
  rcases o_th h with ⟨v1, M1, hc1, h⟩ | ⟨E1, M1, hc1, h⟩
  · refine ev_cl0 (ins := .invokevirtual 47) kc_345 rfl rfl (a := 117) (as := [.ref 0, .int p1]) (rest := [.int (0 : Int32), .ref 231]) rfl rfl (Cs.deep (c_X11_wake hc1) (by decide)) ?_
    refine ev_go kc_345 1 (i' := 6) (L' := [some (.ref 0), some (.int p1), some (.ref 231), none]) (st' := [.long (v1).toInt64, .int (0 : Int32), .ref 231]) (M' := M1) rfl ?_
    obtain ⟨M2, hM2, h⟩ := o_wr h
    refine ev_ls kc_345 rfl rfl rfl hM2 ?_
    refine ev_go kc_345 2 (i' := 15) (L' := [some (.ref 0), some (.int p1), some (.ref 231), none]) (st' := [.int (0 : Int32)]) (M' := M2) rfl ?_
    obtain rfl := Option.some.inj h
    rw [hk]
    exact ev_ret kc_345 rfl rfl rfl
  ·
    rcases o_bif h with ⟨hb3, h⟩ | ⟨hb3, h⟩
    · obtain rfl := Nat.eq_of_beq_eq_true hb3
      obtain rfl := Option.some.inj h
      rw [hk]
      refine ev_clH (ins := .invokevirtual 47) (k1 := 1) (k2 := 0) (h := 8) (q := 3) kc_345 rfl rfl (a := 117) (as := [.ref 0, .int p1]) (rest := [.int (0 : Int32), .ref 231]) rfl rfl rfl rfl rfl rfl (Cs.deep (c_X11_wake hc1) (by decide)) ?_
      refine ev_go kc_345 1 (i' := 10) (L' := [some (.ref 0), some (.int p1), some (.ref 231), none]) (st' := [.int (1 : Int32)]) (M' := M1) rfl ?_
      exact ev_ret kc_345 rfl rfl rfl
    rcases o_bif h with ⟨hb4, h⟩ | ⟨hb4, h⟩
    · obtain rfl := Nat.eq_of_beq_eq_true hb4
      obtain rfl := Option.some.inj h
      rw [hk]
      refine ev_clH (ins := .invokevirtual 47) (k1 := 1) (k2 := 0) (h := 11) (q := 3) kc_345 rfl rfl (a := 117) (as := [.ref 0, .int p1]) (rest := [.int (0 : Int32), .ref 231]) rfl rfl rfl rfl rfl rfl (Cs.deep (c_X11_wake hc1) (by decide)) ?_
      refine ev_go kc_345 1 (i' := 13) (L' := [some (.ref 0), some (.int p1), some (.ref 231), none]) (st' := [.int (2 : Int32)]) (M' := M1) rfl ?_
      exact ev_ret kc_345 rfl rfl rfl
    cases h
/-- WakeTowerLaw.sleep(LWakeTower;I[J)I: 346, H -/
theorem kc_346 : mKc 346 = k_L_sleep := rfl
def f_L_sleep (p1 : Int32) (M0 : mM) : Option (Int32 × mM × Nat) :=
  th (f_X11_sleep p1 M0) (fun v1 M1 => wr (mst M1 231 (ix (0 : Int32)) v1) (fun M2 => some ((0 : Int32), M2, 0))) (fun E1 M1 => bif Nat.beq E1 2 then (some ((1 : Int32), M1, 1)) else (bif Nat.beq E1 4 then (some ((2 : Int32), M1, 1)) else (none)))
set_option maxRecDepth 8000 in
theorem c_L_sleep {p1 : Int32} {M0 : mM} {out : (Int32 × mM × Nat)} (h : f_L_sleep p1 M0 = some out) : Cs (13) 346 [.ref 0, .int p1, .ref 231] M0 (emH eI out) := by
  generalize hk : emH eI out = R
  replace hk := hk.symm
  unfold f_L_sleep at h
  show Ev (13) 346 0 [some (.ref 0), some (.int p1), some (.ref 231), none] [] M0 R
  refine ev_go kc_346 4 (i' := 4) (L' := [some (.ref 0), some (.int p1), some (.ref 231), none]) (st' := [.int p1, .ref 0, .int (0 : Int32), .ref 231]) (M' := M0) rfl ?_
  rcases o_th h with ⟨v1, M1, hc1, h⟩ | ⟨E1, M1, hc1, h⟩
  · refine ev_cl0 (ins := .invokevirtual 50) kc_346 rfl rfl (a := 118) (as := [.ref 0, .int p1]) (rest := [.int (0 : Int32), .ref 231]) rfl rfl (Cs.deep (c_X11_sleep hc1) (by decide)) ?_
    refine ev_go kc_346 1 (i' := 6) (L' := [some (.ref 0), some (.int p1), some (.ref 231), none]) (st' := [.long (v1).toInt64, .int (0 : Int32), .ref 231]) (M' := M1) rfl ?_
    obtain ⟨M2, hM2, h⟩ := o_wr h
    refine ev_ls kc_346 rfl rfl rfl hM2 ?_
    refine ev_go kc_346 2 (i' := 15) (L' := [some (.ref 0), some (.int p1), some (.ref 231), none]) (st' := [.int (0 : Int32)]) (M' := M2) rfl ?_
    obtain rfl := Option.some.inj h
    rw [hk]
    exact ev_ret kc_346 rfl rfl rfl
  ·
    rcases o_bif h with ⟨hb3, h⟩ | ⟨hb3, h⟩
    · obtain rfl := Nat.eq_of_beq_eq_true hb3
      obtain rfl := Option.some.inj h
      rw [hk]
      refine ev_clH (ins := .invokevirtual 50) (k1 := 1) (k2 := 0) (h := 8) (q := 3) kc_346 rfl rfl (a := 118) (as := [.ref 0, .int p1]) (rest := [.int (0 : Int32), .ref 231]) rfl rfl rfl rfl rfl rfl (Cs.deep (c_X11_sleep hc1) (by decide)) ?_
      refine ev_go kc_346 1 (i' := 10) (L' := [some (.ref 0), some (.int p1), some (.ref 231), none]) (st' := [.int (1 : Int32)]) (M' := M1) rfl ?_
      exact ev_ret kc_346 rfl rfl rfl
    rcases o_bif h with ⟨hb4, h⟩ | ⟨hb4, h⟩
    · obtain rfl := Nat.eq_of_beq_eq_true hb4
      obtain rfl := Option.some.inj h
      rw [hk]
      refine ev_clH (ins := .invokevirtual 50) (k1 := 1) (k2 := 0) (h := 11) (q := 3) kc_346 rfl rfl (a := 118) (as := [.ref 0, .int p1]) (rest := [.int (0 : Int32), .ref 231]) rfl rfl rfl rfl rfl rfl (Cs.deep (c_X11_sleep hc1) (by decide)) ?_
      refine ev_go kc_346 1 (i' := 13) (L' := [some (.ref 0), some (.int p1), some (.ref 231), none]) (st' := [.int (2 : Int32)]) (M' := M1) rfl ?_
      exact ev_ret kc_346 rfl rfl rfl
    cases h
/-- WakeTowerLaw.need(LWakeTower;I[J)I: 347, H -/
theorem kc_347 : mKc 347 = k_L_need := rfl
def f_L_need (p1 : Int32) (M0 : mM) : Option (Int32 × mM × Nat) :=
  th (f_X11_need p1 M0) (fun v1 M1 => wr (mst M1 231 (ix (0 : Int32)) v1) (fun M2 => some ((0 : Int32), M2, 0))) (fun E1 M1 => bif Nat.beq E1 0 then (some ((1 : Int32), M1, 1)) else (none))
set_option maxRecDepth 8000 in
theorem c_L_need {p1 : Int32} {M0 : mM} {out : (Int32 × mM × Nat)} (h : f_L_need p1 M0 = some out) : Cs (12) 347 [.ref 0, .int p1, .ref 231] M0 (emH eI out) := by
  generalize hk : emH eI out = R
  replace hk := hk.symm
  unfold f_L_need at h
  show Ev (12) 347 0 [some (.ref 0), some (.int p1), some (.ref 231), none] [] M0 R
  refine ev_go kc_347 4 (i' := 4) (L' := [some (.ref 0), some (.int p1), some (.ref 231), none]) (st' := [.int p1, .ref 0, .int (0 : Int32), .ref 231]) (M' := M0) rfl ?_
  rcases o_th h with ⟨v1, M1, hc1, h⟩ | ⟨E1, M1, hc1, h⟩
  · refine ev_cl0 (ins := .invokevirtual 53) kc_347 rfl rfl (a := 119) (as := [.ref 0, .int p1]) (rest := [.int (0 : Int32), .ref 231]) rfl rfl (Cs.deep (c_X11_need hc1) (by decide)) ?_
    refine ev_go kc_347 1 (i' := 6) (L' := [some (.ref 0), some (.int p1), some (.ref 231), none]) (st' := [.long (v1).toInt64, .int (0 : Int32), .ref 231]) (M' := M1) rfl ?_
    obtain ⟨M2, hM2, h⟩ := o_wr h
    refine ev_ls kc_347 rfl rfl rfl hM2 ?_
    refine ev_go kc_347 2 (i' := 12) (L' := [some (.ref 0), some (.int p1), some (.ref 231), none]) (st' := [.int (0 : Int32)]) (M' := M2) rfl ?_
    obtain rfl := Option.some.inj h
    rw [hk]
    exact ev_ret kc_347 rfl rfl rfl
  ·
    rcases o_bif h with ⟨hb3, h⟩ | ⟨hb3, h⟩
    · obtain rfl := Nat.eq_of_beq_eq_true hb3
      obtain rfl := Option.some.inj h
      rw [hk]
      refine ev_clH (ins := .invokevirtual 53) (k1 := 1) (k2 := 0) (h := 8) (q := 3) kc_347 rfl rfl (a := 119) (as := [.ref 0, .int p1]) (rest := [.int (0 : Int32), .ref 231]) rfl rfl rfl rfl rfl rfl (Cs.deep (c_X11_need hc1) (by decide)) ?_
      refine ev_go kc_347 1 (i' := 10) (L' := [some (.ref 0), some (.int p1), some (.ref 231), none]) (st' := [.int (1 : Int32)]) (M' := M1) rfl ?_
      exact ev_ret kc_347 rfl rfl rfl
    cases h
