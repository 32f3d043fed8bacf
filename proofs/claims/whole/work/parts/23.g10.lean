/-! the methods, by program -/
/-- WakeTowerModel.cannotFeel(I)Z: 294, W -/
theorem kc_294 : mKc 294 = k_X12_cannotFeel := rfl
def f_X12_cannotFeel_18 (s1 : Bool) (M0 : mM) : Option (Bool × mM) :=
  b2 (f_X12_throwsIf s1 (2 : Int32) M0) (fun v1 M1 => bif v1 then (some (true, M1)) else (some (false, M1)))
set_option maxRecDepth 8000 in
theorem e_X12_cannotFeel_18 {s1 : Bool} {M0 : mM} {R : mZ} {out : (Bool × mM)}  (h : f_X12_cannotFeel_18 s1 M0 = some out) (hk : R = emW eB out) : Ev (4) 294 18 [none, none] [.int (mB s1), .ref 215] M0 R := by
  unfold f_X12_cannotFeel_18 at h
  refine ev_go kc_294 1 (i' := 19) (L' := [none, none]) (st' := [.int (2 : Int32), .int (mB s1), .ref 215]) (M' := M0) rfl ?_
  obtain ⟨v1, M1, hc1, h⟩ := o_b2 h
  refine ev_cl0 (ins := .invokevirtual 304) kc_294 rfl rfl (a := 181) (as := [.ref 215, .int (mB s1), .int (2 : Int32)]) (rest := []) rfl rfl (Cs.deep (c_X12_throwsIf hc1) (by decide)) ?_
  rcases o_bif h with ⟨hb2, h⟩ | ⟨hb2, h⟩
  · refine ev_goF kc_294 1 (t := 23) (e := 21) (L' := [none, none]) (st' := []) rfl (mB_e0f hb2) ?_
    refine ev_go kc_294 2 (i' := 24) (L' := [none, none]) (st' := [.int (1 : Int32)]) (M' := M1) rfl ?_
    obtain rfl := Option.some.inj h
    rw [hk]
    exact ev_ret kc_294 rfl rfl rfl
  · refine ev_goT kc_294 1 (t := 23) (e := 21) (L' := [none, none]) (st' := []) rfl (mB_e0t hb2) ?_
    refine ev_go kc_294 1 (i' := 24) (L' := [none, none]) (st' := [.int (0 : Int32)]) (M' := M1) rfl ?_
    obtain rfl := Option.some.inj h
    rw [hk]
    exact ev_ret kc_294 rfl rfl rfl
def f_X12_cannotFeel (p1 : Int32) (M0 : mM) : Option (Bool × mM) :=
  wr (mst M0 215 0 (0 : Int32)) (fun M3 => b1 (f_X12_nobody p1 M3) (fun v4 => b2 (f_X12_throwsIf v4 (1 : Int32) M3) (fun v5 M5 => bif v5 then (some (true, M5)) else (b1 (f_X12_holds p1 M5) (fun v7 => bif v7 then (f_X12_cannotFeel_18 false M5) else (f_X12_cannotFeel_18 true M5))))))
set_option maxRecDepth 8000 in
theorem c_X12_cannotFeel {p1 : Int32} {M0 : mM} {out : (Bool × mM)} (h : f_X12_cannotFeel p1 M0 = some out) : Cs (4) 294 [.ref 215, .int p1] M0 (emW eB out) := by
  generalize hk : emW eB out = R
  replace hk := hk.symm
  unfold f_X12_cannotFeel at h
  show Ev (4) 294 0 [some (.ref 215), some (.int p1)] [] M0 R
  refine ev_go kc_294 2 (i' := 2) (L' := [some (.ref 215), some (.int p1)]) (st' := [.int (0 : Int32), .ref 215]) (M' := M0) rfl ?_
  obtain ⟨M3, hM3, h⟩ := o_wr h
  refine ev_pf kc_294 rfl rfl rfl rfl (fun hc => absurd hc (by decide)) hM3 ?_
  refine ev_go kc_294 3 (i' := 6) (L' := [some (.ref 215), some (.int p1)]) (st' := [.int p1, .ref 215, .ref 215]) (M' := M3) rfl ?_
  obtain ⟨v4, hc4, h⟩ := o_b1 h
  refine ev_cl0 (ins := .invokevirtual 329) kc_294 rfl rfl (a := 201) (as := [.ref 215, .int p1]) (rest := [.ref 215]) rfl rfl (Cs.deep (c_X12_nobody (M0 := M3) hc4) (by decide)) ?_
  refine ev_go kc_294 1 (i' := 8) (L' := [some (.ref 215), some (.int p1)]) (st' := [.int (1 : Int32), .int (mB v4), .ref 215]) (M' := M3) rfl ?_
  obtain ⟨v5, M5, hc5, h⟩ := o_b2 h
  refine ev_cl0 (ins := .invokevirtual 304) kc_294 rfl rfl (a := 181) (as := [.ref 215, .int (mB v4), .int (1 : Int32)]) (rest := []) rfl rfl (Cs.deep (c_X12_throwsIf hc5) (by decide)) ?_
  rcases o_bif h with ⟨hb6, h⟩ | ⟨hb6, h⟩
  · refine ev_goT kc_294 1 (t := 21) (e := 10) (L' := [some (.ref 215), some (.int p1)]) (st' := []) rfl (mB_n0t hb6) ?_
    refine ev_go kc_294 2 (i' := 24) (L' := [some (.ref 215), some (.int p1)]) (st' := [.int (1 : Int32)]) (M' := M5) rfl ?_
    obtain rfl := Option.some.inj h
    rw [hk]
    exact ev_ret kc_294 rfl rfl rfl
  · refine ev_goF kc_294 1 (t := 21) (e := 10) (L' := [some (.ref 215), some (.int p1)]) (st' := []) rfl (mB_n0f hb6) ?_
    refine ev_go kc_294 3 (i' := 13) (L' := [some (.ref 215), some (.int p1)]) (st' := [.int p1, .ref 215, .ref 215]) (M' := M5) rfl ?_
    obtain ⟨v7, hc7, h⟩ := o_b1 h
    refine ev_cl0 (ins := .invokevirtual 89) kc_294 rfl rfl (a := 196) (as := [.ref 215, .int p1]) (rest := [.ref 215]) rfl rfl (Cs.deep (c_X12_holds (M0 := M5) hc7) (by decide)) ?_
    rcases o_bif h with ⟨hb8, h⟩ | ⟨hb8, h⟩
    · refine ev_goT kc_294 1 (t := 17) (e := 15) (L' := [some (.ref 215), some (.int p1)]) (st' := [.ref 215]) rfl (mB_n0t hb8) ?_
      refine ev_go kc_294 1 (i' := 18) (L' := [some (.ref 215), some (.int p1)]) (st' := [.int (0 : Int32), .ref 215]) (M' := M5) rfl ?_
      exact Ev.forget (mLe.sk (mLe.sk mLe.nl)) (e_X12_cannotFeel_18  h hk)
    · refine ev_goF kc_294 1 (t := 17) (e := 15) (L' := [some (.ref 215), some (.int p1)]) (st' := [.ref 215]) rfl (mB_n0f hb8) ?_
      refine ev_go kc_294 2 (i' := 18) (L' := [some (.ref 215), some (.int p1)]) (st' := [.int (1 : Int32), .ref 215]) (M' := M5) rfl ?_
      exact Ev.forget (mLe.sk (mLe.sk mLe.nl)) (e_X12_cannotFeel_18  h hk)
/-- WakeTowerModel.feelTo(II)I: 295, R -/
theorem kc_295 : mKc 295 = k_X12_feelTo := rfl
def f_X12_feelTo_7 (l1 : Int32) (l2 : Int32) (l3 : Int32) (l4 : Int32) (l5 : Int32) (M0 : mM) : Option (Int32 ⊕ (Int32 × Int32)) :=
  bif decide ((256 : Int32) ≤ l5) then (some (.inl l4)) else (b1 (f_X12_feelsSo l5 l1 l3 M0) (fun v2 => bif v2 then (bif decide (l2 = (-1 : Int32)) then (some (.inr ((l4 + (1 : Int32)), (l5 + (1 : Int32))))) else (b1 (f_X12_feelsSo l5 l2 l3 M0) (fun v5 => bif v5 then (some (.inr ((l4 + (1 : Int32)), (l5 + (1 : Int32))))) else (some (.inr ((l4 + (0 : Int32)), (l5 + (1 : Int32)))))))) else (some (.inr ((l4 + (0 : Int32)), (l5 + (1 : Int32)))))))
set_option maxRecDepth 8000 in
theorem e_X12_feelTo_7 {l1 : Int32} {l2 : Int32} {l3 : Int32} {l4 : Int32} {l5 : Int32} {M0 : mM} {R : mZ} {out : (Int32 ⊕ (Int32 × Int32))}  (h : f_X12_feelTo_7 l1 l2 l3 l4 l5 M0 = some out) (hk : (∀ s' : Int32 × Int32, out = .inr s' → Ev (5) 295 7 [some (.ref 215), some (.int l1), some (.int l2), some (.int l3), some (.int s'.1), some (.int s'.2)] [] M0 R) ∧ (∀ e1 : Int32, out = .inl e1 → R = emR eI M0 e1)) : Ev (5) 295 7 [some (.ref 215), some (.int l1), some (.int l2), some (.int l3), some (.int l4), some (.int l5)] [] M0 R := by
  unfold f_X12_feelTo_7 at h
  rcases o_bif h with ⟨hb1, h⟩ | ⟨hb1, h⟩
  · refine ev_goT kc_295 3 (t := 33) (e := 10) (L' := [some (.ref 215), some (.int l1), some (.int l2), some (.int l3), some (.int l4), some (.int l5)]) (st' := []) rfl hb1 ?_
    refine ev_go kc_295 1 (i' := 34) (L' := [some (.ref 215), some (.int l1), some (.int l2), some (.int l3), some (.int l4), some (.int l5)]) (st' := [.int l4]) (M' := M0) rfl ?_
    obtain rfl := Option.some.inj h
    rw [show _ from (hk.2 _ rfl)]
    exact ev_ret kc_295 rfl rfl rfl
  · refine ev_goF kc_295 3 (t := 33) (e := 10) (L' := [some (.ref 215), some (.int l1), some (.int l2), some (.int l3), some (.int l4), some (.int l5)]) (st' := []) rfl hb1 ?_
    refine ev_go kc_295 5 (i' := 15) (L' := [some (.ref 215), some (.int l1), some (.int l2), some (.int l3), some (.int l4), some (.int l5)]) (st' := [.int l3, .int l1, .int l5, .ref 215, .int l4]) (M' := M0) rfl ?_
    obtain ⟨v2, hc2, h⟩ := o_b1 h
    refine ev_cl0 (ins := .invokevirtual 415) kc_295 rfl rfl (a := 292) (as := [.ref 215, .int l5, .int l1, .int l3]) (rest := [.int l4]) rfl rfl (Cs.deep (c_X12_feelsSo (M0 := M0) hc2) (by decide)) ?_
    rcases o_bif h with ⟨hb3, h⟩ | ⟨hb3, h⟩
    · refine ev_goF kc_295 1 (t := 28) (e := 17) (L' := [some (.ref 215), some (.int l1), some (.int l2), some (.int l3), some (.int l4), some (.int l5)]) (st' := [.int l4]) rfl (mB_e0f hb3) ?_
      rcases o_bif h with ⟨hb4, h⟩ | ⟨hb4, h⟩
      · refine ev_goT kc_295 3 (t := 26) (e := 20) (L' := [some (.ref 215), some (.int l1), some (.int l2), some (.int l3), some (.int l4), some (.int l5)]) (st' := [.int l4]) rfl hb4 ?_
        refine ev_go kc_295 6 (i' := 7) (L' := [some (.ref 215), some (.int l1), some (.int l2), some (.int l3), some (.int (l4 + (1 : Int32))), some (.int (l5 + (1 : Int32)))]) (st' := []) (M' := M0) rfl ?_
        obtain rfl := Option.some.inj h
        exact Ev.forget (mLe.kp (mLe.kp (mLe.kp (mLe.kp (mLe.kp (mLe.kp mLe.nl)))))) (hk.1 ((l4 + (1 : Int32)), (l5 + (1 : Int32))) rfl)
      · refine ev_goF kc_295 3 (t := 26) (e := 20) (L' := [some (.ref 215), some (.int l1), some (.int l2), some (.int l3), some (.int l4), some (.int l5)]) (st' := [.int l4]) rfl hb4 ?_
        refine ev_go kc_295 4 (i' := 24) (L' := [some (.ref 215), some (.int l1), some (.int l2), some (.int l3), some (.int l4), some (.int l5)]) (st' := [.int l3, .int l2, .int l5, .ref 215, .int l4]) (M' := M0) rfl ?_
        obtain ⟨v5, hc5, h⟩ := o_b1 h
        refine ev_cl0 (ins := .invokevirtual 415) kc_295 rfl rfl (a := 292) (as := [.ref 215, .int l5, .int l2, .int l3]) (rest := [.int l4]) rfl rfl (Cs.deep (c_X12_feelsSo (M0 := M0) hc5) (by decide)) ?_
        rcases o_bif h with ⟨hb6, h⟩ | ⟨hb6, h⟩
        · refine ev_goF kc_295 1 (t := 28) (e := 26) (L' := [some (.ref 215), some (.int l1), some (.int l2), some (.int l3), some (.int l4), some (.int l5)]) (st' := [.int l4]) rfl (mB_e0f hb6) ?_
          refine ev_go kc_295 6 (i' := 7) (L' := [some (.ref 215), some (.int l1), some (.int l2), some (.int l3), some (.int (l4 + (1 : Int32))), some (.int (l5 + (1 : Int32)))]) (st' := []) (M' := M0) rfl ?_
          obtain rfl := Option.some.inj h
          exact Ev.forget (mLe.kp (mLe.kp (mLe.kp (mLe.kp (mLe.kp (mLe.kp mLe.nl)))))) (hk.1 ((l4 + (1 : Int32)), (l5 + (1 : Int32))) rfl)
        · refine ev_goT kc_295 1 (t := 28) (e := 26) (L' := [some (.ref 215), some (.int l1), some (.int l2), some (.int l3), some (.int l4), some (.int l5)]) (st' := [.int l4]) rfl (mB_e0t hb6) ?_
          refine ev_go kc_295 5 (i' := 7) (L' := [some (.ref 215), some (.int l1), some (.int l2), some (.int l3), some (.int (l4 + (0 : Int32))), some (.int (l5 + (1 : Int32)))]) (st' := []) (M' := M0) rfl ?_
          obtain rfl := Option.some.inj h
          exact Ev.forget (mLe.kp (mLe.kp (mLe.kp (mLe.kp (mLe.kp (mLe.kp mLe.nl)))))) (hk.1 ((l4 + (0 : Int32)), (l5 + (1 : Int32))) rfl)
    · refine ev_goT kc_295 1 (t := 28) (e := 17) (L' := [some (.ref 215), some (.int l1), some (.int l2), some (.int l3), some (.int l4), some (.int l5)]) (st' := [.int l4]) rfl (mB_e0t hb3) ?_
      refine ev_go kc_295 5 (i' := 7) (L' := [some (.ref 215), some (.int l1), some (.int l2), some (.int l3), some (.int (l4 + (0 : Int32))), some (.int (l5 + (1 : Int32)))]) (st' := []) (M' := M0) rfl ?_
      obtain rfl := Option.some.inj h
      exact Ev.forget (mLe.kp (mLe.kp (mLe.kp (mLe.kp (mLe.kp (mLe.kp mLe.nl)))))) (hk.1 ((l4 + (0 : Int32)), (l5 + (1 : Int32))) rfl)
def f_X12_feelTo_l7 (l1 : Int32) (l2 : Int32) (l3 : Int32) (l4 : Int32) (l5 : Int32) (M0 : mM) : Option Int32 :=
  wh 100000 (fun s : Int32 × Int32 => f_X12_feelTo_7 l1 l2 l3 s.1 s.2 M0) (l4, l5)
theorem e_X12_feelTo_l7 {l1 : Int32} {l2 : Int32} {l3 : Int32} {l4 : Int32} {l5 : Int32} {M0 : mM} {R : mZ} {out : Int32}  (h : f_X12_feelTo_l7 l1 l2 l3 l4 l5 M0 = some out) (hk : R = emR eI M0 out) : Ev (5) 295 7 [some (.ref 215), some (.int l1), some (.int l2), some (.int l3), some (.int l4), some (.int l5)] [] M0 R := by
  unfold f_X12_feelTo_l7 at h
  exact wh_ev (P := fun s : Int32 × Int32 => Ev (5) 295 7 [some (.ref 215), some (.int l1), some (.int l2), some (.int l3), some (.int s.1), some (.int s.2)] [] M0 R) (Q := fun e : Int32 => R = emR eI M0 e) (fun s o hb h1 h2 => e_X12_feelTo_7  hb ⟨h1, h2⟩) 100000 _ _ h hk
def f_X12_feelTo (p1 : Int32) (p2 : Int32) (M0 : mM) : Option Int32 :=
  b1 (f_X12_sleepersUp M0) (fun v7 => f_X12_feelTo_l7 p1 p2 v7 (0 : Int32) (0 : Int32) M0)
set_option maxRecDepth 8000 in
theorem c_X12_feelTo {p1 : Int32} {p2 : Int32} {M0 : mM} {out : Int32} (h : f_X12_feelTo p1 p2 M0 = some out) : Cs (5) 295 [.ref 215, .int p1, .int p2] M0 (emR eI M0 out) := by
  generalize hk : emR eI M0 out = R
  replace hk := hk.symm
  unfold f_X12_feelTo at h
  show Ev (5) 295 0 [some (.ref 215), some (.int p1), some (.int p2), none, none, none] [] M0 R
  refine ev_go kc_295 1 (i' := 1) (L' := [some (.ref 215), some (.int p1), some (.int p2), none, none, none]) (st' := [.ref 215]) (M' := M0) rfl ?_
  obtain ⟨v7, hc7, h⟩ := o_b1 h
  refine ev_cl0 (ins := .invokevirtual 412) kc_295 rfl rfl (a := 293) (as := [.ref 215]) (rest := []) rfl rfl (Cs.deep (c_X12_sleepersUp (M0 := M0) hc7) (by decide)) ?_
  refine ev_go kc_295 5 (i' := 7) (L' := [some (.ref 215), some (.int p1), some (.int p2), some (.int v7), some (.int (0 : Int32)), some (.int (0 : Int32))]) (st' := []) (M' := M0) rfl ?_
  exact Ev.forget (mLe.kp (mLe.kp (mLe.kp (mLe.kp (mLe.kp (mLe.kp mLe.nl)))))) (e_X12_feelTo_l7  h hk)
/-- WakeTowerModel.feels(I)I: 296, W -/
theorem kc_296 : mKc 296 = k_X12_feels := rfl
def f_X12_feels (p1 : Int32) (M0 : mM) : Option (Int32 × mM) :=
  b2 (f_X12_cannotFeel p1 M0) (fun v1 M1 => bif v1 then (some ((0 : Int32), M1)) else (b2 (f_X12_laysSleepers M1) (fun v3 M3 => b1 (f_X12_feelTo p1 (-1 : Int32) M3) (fun v4 => some (v4, M3)))))
set_option maxRecDepth 8000 in
theorem c_X12_feels {p1 : Int32} {M0 : mM} {out : (Int32 × mM)} (h : f_X12_feels p1 M0 = some out) : Cs (8) 296 [.ref 215, .int p1] M0 (emW eI out) := by
  generalize hk : emW eI out = R
  replace hk := hk.symm
  unfold f_X12_feels at h
  show Ev (8) 296 0 [some (.ref 215), some (.int p1)] [] M0 R
  refine ev_go kc_296 2 (i' := 2) (L' := [some (.ref 215), some (.int p1)]) (st' := [.int p1, .ref 215]) (M' := M0) rfl ?_
  obtain ⟨v1, M1, hc1, h⟩ := o_b2 h
  refine ev_cl0 (ins := .invokevirtual 418) kc_296 rfl rfl (a := 294) (as := [.ref 215, .int p1]) (rest := []) rfl rfl (Cs.deep (c_X12_cannotFeel hc1) (by decide)) ?_
  rcases o_bif h with ⟨hb2, h⟩ | ⟨hb2, h⟩
  · refine ev_goF kc_296 1 (t := 6) (e := 4) (L' := [some (.ref 215), some (.int p1)]) (st' := []) rfl (mB_e0f hb2) ?_
    refine ev_go kc_296 1 (i' := 5) (L' := [some (.ref 215), some (.int p1)]) (st' := [.int (0 : Int32)]) (M' := M1) rfl ?_
    obtain rfl := Option.some.inj h
    rw [hk]
    exact ev_ret kc_296 rfl rfl rfl
  · refine ev_goT kc_296 1 (t := 6) (e := 4) (L' := [some (.ref 215), some (.int p1)]) (st' := []) rfl (mB_e0t hb2) ?_
    refine ev_go kc_296 1 (i' := 7) (L' := [some (.ref 215), some (.int p1)]) (st' := [.ref 215]) (M' := M1) rfl ?_
    obtain ⟨v3, M3, hc3, h⟩ := o_b2 h
    refine ev_cl0 (ins := .invokevirtual 421) kc_296 rfl rfl (a := 291) (as := [.ref 215]) (rest := []) rfl rfl (Cs.deep (c_X12_laysSleepers hc3) (by decide)) ?_
    refine ev_go kc_296 3 (i' := 11) (L' := [some (.ref 215), some (.int p1)]) (st' := [.int (-1 : Int32), .int p1, .ref 215]) (M' := M3) rfl ?_
    obtain ⟨v4, hc4, h⟩ := o_b1 h
    refine ev_cl0 (ins := .invokevirtual 424) kc_296 rfl rfl (a := 295) (as := [.ref 215, .int p1, .int (-1 : Int32)]) (rest := []) rfl rfl (Cs.deep (c_X12_feelTo (M0 := M3) hc4) (by decide)) ?_
    obtain rfl := Option.some.inj h
    rw [hk]
    exact ev_ret kc_296 rfl rfl rfl
/-- WakeTowerModel.sure(I)I: 297, W -/
theorem kc_297 : mKc 297 = k_X12_sure := rfl
def f_X12_sure_12 (l1 : Int32) (l2 : Int32) (l3 : Int32) (M0 : mM) : Option ((Int32 × mM) ⊕ (Int32 × Int32)) :=
  bif decide ((256 : Int32) ≤ l3) then (some (.inl (l2, M0))) else (b1 (f_X12_sleepersUp M0) (fun v2 => b1 (f_X12_feelsSo l3 l1 v2 M0) (fun v3 => bif v3 then (some (.inr ((l2 &&& l3), (l3 + (1 : Int32))))) else (some (.inr ((l2 &&& (-1 : Int32)), (l3 + (1 : Int32))))))))
set_option maxRecDepth 8000 in
theorem e_X12_sure_12 {l1 : Int32} {l2 : Int32} {l3 : Int32} {M0 : mM} {R : mZ} {out : ((Int32 × mM) ⊕ (Int32 × Int32))}  (h : f_X12_sure_12 l1 l2 l3 M0 = some out) (hk : (∀ s' : Int32 × Int32, out = .inr s' → Ev (8) 297 12 [some (.ref 215), some (.int l1), some (.int s'.1), some (.int s'.2)] [] M0 R) ∧ (∀ e1 : (Int32 × mM), out = .inl e1 → R = emW eI e1)) : Ev (8) 297 12 [some (.ref 215), some (.int l1), some (.int l2), some (.int l3)] [] M0 R := by
  unfold f_X12_sure_12 at h
  rcases o_bif h with ⟨hb1, h⟩ | ⟨hb1, h⟩
  · refine ev_goT kc_297 3 (t := 30) (e := 15) (L' := [some (.ref 215), some (.int l1), some (.int l2), some (.int l3)]) (st' := []) rfl hb1 ?_
    refine ev_go kc_297 1 (i' := 31) (L' := [some (.ref 215), some (.int l1), some (.int l2), some (.int l3)]) (st' := [.int l2]) (M' := M0) rfl ?_
    obtain rfl := Option.some.inj h
    rw [show _ from (hk.2 _ rfl)]
    exact ev_ret kc_297 rfl rfl rfl
  · refine ev_goF kc_297 3 (t := 30) (e := 15) (L' := [some (.ref 215), some (.int l1), some (.int l2), some (.int l3)]) (st' := []) rfl hb1 ?_
    refine ev_go kc_297 5 (i' := 20) (L' := [some (.ref 215), some (.int l1), some (.int l2), some (.int l3)]) (st' := [.ref 215, .int l1, .int l3, .ref 215, .int l2]) (M' := M0) rfl ?_
    obtain ⟨v2, hc2, h⟩ := o_b1 h
    refine ev_cl0 (ins := .invokevirtual 412) kc_297 rfl rfl (a := 293) (as := [.ref 215]) (rest := [.int l1, .int l3, .ref 215, .int l2]) rfl rfl (Cs.deep (c_X12_sleepersUp (M0 := M0) hc2) (by decide)) ?_
    obtain ⟨v3, hc3, h⟩ := o_b1 h
    refine ev_cl0 (ins := .invokevirtual 415) kc_297 rfl rfl (a := 292) (as := [.ref 215, .int l3, .int l1, .int v2]) (rest := [.int l2]) rfl rfl (Cs.deep (c_X12_feelsSo (M0 := M0) hc3) (by decide)) ?_
    rcases o_bif h with ⟨hb4, h⟩ | ⟨hb4, h⟩
    · refine ev_goF kc_297 1 (t := 25) (e := 23) (L' := [some (.ref 215), some (.int l1), some (.int l2), some (.int l3)]) (st' := [.int l2]) rfl (mB_e0f hb4) ?_
      refine ev_go kc_297 6 (i' := 12) (L' := [some (.ref 215), some (.int l1), some (.int (l2 &&& l3)), some (.int (l3 + (1 : Int32)))]) (st' := []) (M' := M0) rfl ?_
      obtain rfl := Option.some.inj h
      exact Ev.forget (mLe.kp (mLe.kp (mLe.kp (mLe.kp mLe.nl)))) (hk.1 ((l2 &&& l3), (l3 + (1 : Int32))) rfl)
    · refine ev_goT kc_297 1 (t := 25) (e := 23) (L' := [some (.ref 215), some (.int l1), some (.int l2), some (.int l3)]) (st' := [.int l2]) rfl (mB_e0t hb4) ?_
      refine ev_go kc_297 5 (i' := 12) (L' := [some (.ref 215), some (.int l1), some (.int (l2 &&& (-1 : Int32))), some (.int (l3 + (1 : Int32)))]) (st' := []) (M' := M0) rfl ?_
      obtain rfl := Option.some.inj h
      exact Ev.forget (mLe.kp (mLe.kp (mLe.kp (mLe.kp mLe.nl)))) (hk.1 ((l2 &&& (-1 : Int32)), (l3 + (1 : Int32))) rfl)
def f_X12_sure_l12 (l1 : Int32) (l2 : Int32) (l3 : Int32) (M0 : mM) : Option (Int32 × mM) :=
  wh 100000 (fun s : Int32 × Int32 => f_X12_sure_12 l1 s.1 s.2 M0) (l2, l3)
theorem e_X12_sure_l12 {l1 : Int32} {l2 : Int32} {l3 : Int32} {M0 : mM} {R : mZ} {out : (Int32 × mM)}  (h : f_X12_sure_l12 l1 l2 l3 M0 = some out) (hk : R = emW eI out) : Ev (8) 297 12 [some (.ref 215), some (.int l1), some (.int l2), some (.int l3)] [] M0 R := by
  unfold f_X12_sure_l12 at h
  exact wh_ev (P := fun s : Int32 × Int32 => Ev (8) 297 12 [some (.ref 215), some (.int l1), some (.int s.1), some (.int s.2)] [] M0 R) (Q := fun e : (Int32 × mM) => R = emW eI e) (fun s o hb h1 h2 => e_X12_sure_12  hb ⟨h1, h2⟩) 100000 _ _ h hk
def f_X12_sure (p1 : Int32) (M0 : mM) : Option (Int32 × mM) :=
  b2 (f_X12_cannotFeel p1 M0) (fun v5 M5 => bif v5 then (some ((0 : Int32), M5)) else (b2 (f_X12_laysSleepers M5) (fun v7 M7 => f_X12_sure_l12 p1 (255 : Int32) (0 : Int32) M7)))
set_option maxRecDepth 8000 in
theorem c_X12_sure {p1 : Int32} {M0 : mM} {out : (Int32 × mM)} (h : f_X12_sure p1 M0 = some out) : Cs (8) 297 [.ref 215, .int p1] M0 (emW eI out) := by
  generalize hk : emW eI out = R
  replace hk := hk.symm
  unfold f_X12_sure at h
  show Ev (8) 297 0 [some (.ref 215), some (.int p1), none, none] [] M0 R
  refine ev_go kc_297 2 (i' := 2) (L' := [some (.ref 215), some (.int p1), none, none]) (st' := [.int p1, .ref 215]) (M' := M0) rfl ?_
  obtain ⟨v5, M5, hc5, h⟩ := o_b2 h
  refine ev_cl0 (ins := .invokevirtual 418) kc_297 rfl rfl (a := 294) (as := [.ref 215, .int p1]) (rest := []) rfl rfl (Cs.deep (c_X12_cannotFeel hc5) (by decide)) ?_
  rcases o_bif h with ⟨hb6, h⟩ | ⟨hb6, h⟩
  · refine ev_goF kc_297 1 (t := 6) (e := 4) (L' := [some (.ref 215), some (.int p1), none, none]) (st' := []) rfl (mB_e0f hb6) ?_
    refine ev_go kc_297 1 (i' := 5) (L' := [some (.ref 215), some (.int p1), none, none]) (st' := [.int (0 : Int32)]) (M' := M5) rfl ?_
    obtain rfl := Option.some.inj h
    rw [hk]
    exact ev_ret kc_297 rfl rfl rfl
  · refine ev_goT kc_297 1 (t := 6) (e := 4) (L' := [some (.ref 215), some (.int p1), none, none]) (st' := []) rfl (mB_e0t hb6) ?_
    refine ev_go kc_297 1 (i' := 7) (L' := [some (.ref 215), some (.int p1), none, none]) (st' := [.ref 215]) (M' := M5) rfl ?_
    obtain ⟨v7, M7, hc7, h⟩ := o_b2 h
    refine ev_cl0 (ins := .invokevirtual 421) kc_297 rfl rfl (a := 291) (as := [.ref 215]) (rest := []) rfl rfl (Cs.deep (c_X12_laysSleepers hc7) (by decide)) ?_
    refine ev_go kc_297 4 (i' := 12) (L' := [some (.ref 215), some (.int p1), some (.int (255 : Int32)), some (.int (0 : Int32))]) (st' := []) (M' := M7) rfl ?_
    exact Ev.forget (mLe.kp (mLe.kp (mLe.kp (mLe.kp mLe.nl)))) (e_X12_sure_l12  h hk)
/-- WakeTowerModel.free(I)I: 298, W -/
theorem kc_298 : mKc 298 = k_X12_free := rfl
def f_X12_free_12 (l1 : Int32) (l2 : Int32) (l3 : Int32) (M0 : mM) : Option ((Int32 × mM) ⊕ (Int32 × Int32)) :=
  bif decide ((256 : Int32) ≤ l3) then (b1 (f_X12_upOnes M0) (fun v2 => some (.inl (((v2 &&& (l2 ^^^ (-1 : Int32))) &&& (((1 : Int32) <<< (l1 &&& (31 : Int32))) ^^^ (-1 : Int32))), M0)))) else (b1 (f_X12_sleepersUp M0) (fun v3 => b1 (f_X12_feelsSo l3 l1 v3 M0) (fun v4 => bif v4 then (some (.inr ((l2 ||| l3), (l3 + (1 : Int32))))) else (some (.inr ((l2 ||| (0 : Int32)), (l3 + (1 : Int32))))))))
set_option maxRecDepth 8000 in
theorem e_X12_free_12 {l1 : Int32} {l2 : Int32} {l3 : Int32} {M0 : mM} {R : mZ} {out : ((Int32 × mM) ⊕ (Int32 × Int32))}  (h : f_X12_free_12 l1 l2 l3 M0 = some out) (hk : (∀ s' : Int32 × Int32, out = .inr s' → Ev (8) 298 12 [some (.ref 215), some (.int l1), some (.int s'.1), some (.int s'.2)] [] M0 R) ∧ (∀ e1 : (Int32 × mM), out = .inl e1 → R = emW eI e1)) : Ev (8) 298 12 [some (.ref 215), some (.int l1), some (.int l2), some (.int l3)] [] M0 R := by
  unfold f_X12_free_12 at h
  rcases o_bif h with ⟨hb1, h⟩ | ⟨hb1, h⟩
  · refine ev_goT kc_298 3 (t := 30) (e := 15) (L' := [some (.ref 215), some (.int l1), some (.int l2), some (.int l3)]) (st' := []) rfl hb1 ?_
    refine ev_go kc_298 1 (i' := 31) (L' := [some (.ref 215), some (.int l1), some (.int l2), some (.int l3)]) (st' := [.ref 215]) (M' := M0) rfl ?_
    obtain ⟨v2, hc2, h⟩ := o_b1 h
    refine ev_cl0 (ins := .invokevirtual 394) kc_298 rfl rfl (a := 197) (as := [.ref 215]) (rest := []) rfl rfl (Cs.deep (c_X12_upOnes (M0 := M0) hc2) (by decide)) ?_
    refine ev_go kc_298 10 (i' := 42) (L' := [some (.ref 215), some (.int l1), some (.int l2), some (.int l3)]) (st' := [.int ((v2 &&& (l2 ^^^ (-1 : Int32))) &&& (((1 : Int32) <<< (l1 &&& (31 : Int32))) ^^^ (-1 : Int32)))]) (M' := M0) rfl ?_
    obtain rfl := Option.some.inj h
    rw [show _ from (hk.2 _ rfl)]
    exact ev_ret kc_298 rfl rfl rfl
  · refine ev_goF kc_298 3 (t := 30) (e := 15) (L' := [some (.ref 215), some (.int l1), some (.int l2), some (.int l3)]) (st' := []) rfl hb1 ?_
    refine ev_go kc_298 5 (i' := 20) (L' := [some (.ref 215), some (.int l1), some (.int l2), some (.int l3)]) (st' := [.ref 215, .int l1, .int l3, .ref 215, .int l2]) (M' := M0) rfl ?_
    obtain ⟨v3, hc3, h⟩ := o_b1 h
    refine ev_cl0 (ins := .invokevirtual 412) kc_298 rfl rfl (a := 293) (as := [.ref 215]) (rest := [.int l1, .int l3, .ref 215, .int l2]) rfl rfl (Cs.deep (c_X12_sleepersUp (M0 := M0) hc3) (by decide)) ?_
    obtain ⟨v4, hc4, h⟩ := o_b1 h
    refine ev_cl0 (ins := .invokevirtual 415) kc_298 rfl rfl (a := 292) (as := [.ref 215, .int l3, .int l1, .int v3]) (rest := [.int l2]) rfl rfl (Cs.deep (c_X12_feelsSo (M0 := M0) hc4) (by decide)) ?_
    rcases o_bif h with ⟨hb5, h⟩ | ⟨hb5, h⟩
    · refine ev_goF kc_298 1 (t := 25) (e := 23) (L' := [some (.ref 215), some (.int l1), some (.int l2), some (.int l3)]) (st' := [.int l2]) rfl (mB_e0f hb5) ?_
      refine ev_go kc_298 6 (i' := 12) (L' := [some (.ref 215), some (.int l1), some (.int (l2 ||| l3)), some (.int (l3 + (1 : Int32)))]) (st' := []) (M' := M0) rfl ?_
      obtain rfl := Option.some.inj h
      exact Ev.forget (mLe.kp (mLe.kp (mLe.kp (mLe.kp mLe.nl)))) (hk.1 ((l2 ||| l3), (l3 + (1 : Int32))) rfl)
    · refine ev_goT kc_298 1 (t := 25) (e := 23) (L' := [some (.ref 215), some (.int l1), some (.int l2), some (.int l3)]) (st' := [.int l2]) rfl (mB_e0t hb5) ?_
      refine ev_go kc_298 5 (i' := 12) (L' := [some (.ref 215), some (.int l1), some (.int (l2 ||| (0 : Int32))), some (.int (l3 + (1 : Int32)))]) (st' := []) (M' := M0) rfl ?_
      obtain rfl := Option.some.inj h
      exact Ev.forget (mLe.kp (mLe.kp (mLe.kp (mLe.kp mLe.nl)))) (hk.1 ((l2 ||| (0 : Int32)), (l3 + (1 : Int32))) rfl)
def f_X12_free_l12 (l1 : Int32) (l2 : Int32) (l3 : Int32) (M0 : mM) : Option (Int32 × mM) :=
  wh 100000 (fun s : Int32 × Int32 => f_X12_free_12 l1 s.1 s.2 M0) (l2, l3)
theorem e_X12_free_l12 {l1 : Int32} {l2 : Int32} {l3 : Int32} {M0 : mM} {R : mZ} {out : (Int32 × mM)}  (h : f_X12_free_l12 l1 l2 l3 M0 = some out) (hk : R = emW eI out) : Ev (8) 298 12 [some (.ref 215), some (.int l1), some (.int l2), some (.int l3)] [] M0 R := by
  unfold f_X12_free_l12 at h
  exact wh_ev (P := fun s : Int32 × Int32 => Ev (8) 298 12 [some (.ref 215), some (.int l1), some (.int s.1), some (.int s.2)] [] M0 R) (Q := fun e : (Int32 × mM) => R = emW eI e) (fun s o hb h1 h2 => e_X12_free_12  hb ⟨h1, h2⟩) 100000 _ _ h hk
def f_X12_free (p1 : Int32) (M0 : mM) : Option (Int32 × mM) :=
  b2 (f_X12_cannotFeel p1 M0) (fun v6 M6 => bif v6 then (some ((0 : Int32), M6)) else (b2 (f_X12_laysSleepers M6) (fun v8 M8 => f_X12_free_l12 p1 (0 : Int32) (0 : Int32) M8)))
set_option maxRecDepth 8000 in
theorem c_X12_free {p1 : Int32} {M0 : mM} {out : (Int32 × mM)} (h : f_X12_free p1 M0 = some out) : Cs (8) 298 [.ref 215, .int p1] M0 (emW eI out) := by
  generalize hk : emW eI out = R
  replace hk := hk.symm
  unfold f_X12_free at h
  show Ev (8) 298 0 [some (.ref 215), some (.int p1), none, none] [] M0 R
  refine ev_go kc_298 2 (i' := 2) (L' := [some (.ref 215), some (.int p1), none, none]) (st' := [.int p1, .ref 215]) (M' := M0) rfl ?_
  obtain ⟨v6, M6, hc6, h⟩ := o_b2 h
  refine ev_cl0 (ins := .invokevirtual 418) kc_298 rfl rfl (a := 294) (as := [.ref 215, .int p1]) (rest := []) rfl rfl (Cs.deep (c_X12_cannotFeel hc6) (by decide)) ?_
  rcases o_bif h with ⟨hb7, h⟩ | ⟨hb7, h⟩
  · refine ev_goF kc_298 1 (t := 6) (e := 4) (L' := [some (.ref 215), some (.int p1), none, none]) (st' := []) rfl (mB_e0f hb7) ?_
    refine ev_go kc_298 1 (i' := 5) (L' := [some (.ref 215), some (.int p1), none, none]) (st' := [.int (0 : Int32)]) (M' := M6) rfl ?_
    obtain rfl := Option.some.inj h
    rw [hk]
    exact ev_ret kc_298 rfl rfl rfl
  · refine ev_goT kc_298 1 (t := 6) (e := 4) (L' := [some (.ref 215), some (.int p1), none, none]) (st' := []) rfl (mB_e0t hb7) ?_
    refine ev_go kc_298 1 (i' := 7) (L' := [some (.ref 215), some (.int p1), none, none]) (st' := [.ref 215]) (M' := M6) rfl ?_
    obtain ⟨v8, M8, hc8, h⟩ := o_b2 h
    refine ev_cl0 (ins := .invokevirtual 421) kc_298 rfl rfl (a := 291) (as := [.ref 215]) (rest := []) rfl rfl (Cs.deep (c_X12_laysSleepers hc8) (by decide)) ?_
    refine ev_go kc_298 4 (i' := 12) (L' := [some (.ref 215), some (.int p1), some (.int (0 : Int32)), some (.int (0 : Int32))]) (st' := []) (M' := M8) rfl ?_
    exact Ev.forget (mLe.kp (mLe.kp (mLe.kp (mLe.kp mLe.nl)))) (e_X12_free_l12  h hk)
/-- WakeTowerModel.both(II)I: 299, W -/
theorem kc_299 : mKc 299 = k_X12_both := rfl
def f_X12_both_40 (l1 : Int32) (l2 : Int32) (s1 : Bool) (M0 : mM) : Option (Int32 × mM) :=
  b2 (f_X12_throwsIf s1 (3 : Int32) M0) (fun v1 M1 => bif v1 then (some ((0 : Int32), M1)) else (b2 (f_X12_laysSleepers M1) (fun v3 M3 => b1 (f_X12_feelTo l1 l2 M3) (fun v4 => some (v4, M3)))))
set_option maxRecDepth 8000 in
theorem e_X12_both_40 {l1 : Int32} {l2 : Int32} {s1 : Bool} {M0 : mM} {R : mZ} {out : (Int32 × mM)}  (h : f_X12_both_40 l1 l2 s1 M0 = some out) (hk : R = emW eI out) : Ev (8) 299 40 [some (.ref 215), some (.int l1), some (.int l2)] [.int (mB s1), .ref 215] M0 R := by
  unfold f_X12_both_40 at h
  refine ev_go kc_299 1 (i' := 41) (L' := [some (.ref 215), some (.int l1), some (.int l2)]) (st' := [.int (3 : Int32), .int (mB s1), .ref 215]) (M' := M0) rfl ?_
  obtain ⟨v1, M1, hc1, h⟩ := o_b2 h
  refine ev_cl0 (ins := .invokevirtual 304) kc_299 rfl rfl (a := 181) (as := [.ref 215, .int (mB s1), .int (3 : Int32)]) (rest := []) rfl rfl (Cs.deep (c_X12_throwsIf hc1) (by decide)) ?_
  rcases o_bif h with ⟨hb2, h⟩ | ⟨hb2, h⟩
  · refine ev_goF kc_299 1 (t := 45) (e := 43) (L' := [some (.ref 215), some (.int l1), some (.int l2)]) (st' := []) rfl (mB_e0f hb2) ?_
    refine ev_go kc_299 1 (i' := 44) (L' := [some (.ref 215), some (.int l1), some (.int l2)]) (st' := [.int (0 : Int32)]) (M' := M1) rfl ?_
    obtain rfl := Option.some.inj h
    rw [hk]
    exact ev_ret kc_299 rfl rfl rfl
  · refine ev_goT kc_299 1 (t := 45) (e := 43) (L' := [some (.ref 215), some (.int l1), some (.int l2)]) (st' := []) rfl (mB_e0t hb2) ?_
    refine ev_go kc_299 1 (i' := 46) (L' := [some (.ref 215), some (.int l1), some (.int l2)]) (st' := [.ref 215]) (M' := M1) rfl ?_
    obtain ⟨v3, M3, hc3, h⟩ := o_b2 h
    refine ev_cl0 (ins := .invokevirtual 421) kc_299 rfl rfl (a := 291) (as := [.ref 215]) (rest := []) rfl rfl (Cs.deep (c_X12_laysSleepers hc3) (by decide)) ?_
    refine ev_go kc_299 3 (i' := 50) (L' := [some (.ref 215), some (.int l1), some (.int l2)]) (st' := [.int l2, .int l1, .ref 215]) (M' := M3) rfl ?_
    obtain ⟨v4, hc4, h⟩ := o_b1 h
    refine ev_cl0 (ins := .invokevirtual 424) kc_299 rfl rfl (a := 295) (as := [.ref 215, .int l1, .int l2]) (rest := []) rfl rfl (Cs.deep (c_X12_feelTo (M0 := M3) hc4) (by decide)) ?_
    obtain rfl := Option.some.inj h
    rw [hk]
    exact ev_ret kc_299 rfl rfl rfl
def f_X12_both_37 (l1 : Int32) (l2 : Int32) (M0 : mM) : Option (Int32 × mM) :=
  f_X12_both_40 l1 l2 true M0
set_option maxRecDepth 8000 in
theorem e_X12_both_37 {l1 : Int32} {l2 : Int32} {M0 : mM} {R : mZ} {out : (Int32 × mM)}  (h : f_X12_both_37 l1 l2 M0 = some out) (hk : R = emW eI out) : Ev (8) 299 37 [some (.ref 215), some (.int l1), some (.int l2)] [.ref 215] M0 R := by
  unfold f_X12_both_37 at h
  refine ev_go kc_299 2 (i' := 40) (L' := [some (.ref 215), some (.int l1), some (.int l2)]) (st' := [.int (1 : Int32), .ref 215]) (M' := M0) rfl ?_
  exact Ev.forget (mLe.kp (mLe.kp (mLe.kp mLe.nl))) (e_X12_both_40  h hk)
def f_X12_both_25 (l1 : Int32) (l2 : Int32) (s1 : Bool) (M0 : mM) : Option (Int32 × mM) :=
  b2 (f_X12_throwsIf s1 (2 : Int32) M0) (fun v5 M5 => bif v5 then (some ((0 : Int32), M5)) else (b1 (f_X12_holds l1 M5) (fun v7 => bif v7 then (b1 (f_X12_holds l2 M5) (fun v9 => bif v9 then (f_X12_both_40 l1 l2 false M5) else (f_X12_both_37 l1 l2 M5))) else (f_X12_both_37 l1 l2 M5))))
set_option maxRecDepth 8000 in
theorem e_X12_both_25 {l1 : Int32} {l2 : Int32} {s1 : Bool} {M0 : mM} {R : mZ} {out : (Int32 × mM)}  (h : f_X12_both_25 l1 l2 s1 M0 = some out) (hk : R = emW eI out) : Ev (8) 299 25 [some (.ref 215), some (.int l1), some (.int l2)] [.int (mB s1), .ref 215] M0 R := by
  unfold f_X12_both_25 at h
  refine ev_go kc_299 1 (i' := 26) (L' := [some (.ref 215), some (.int l1), some (.int l2)]) (st' := [.int (2 : Int32), .int (mB s1), .ref 215]) (M' := M0) rfl ?_
  obtain ⟨v5, M5, hc5, h⟩ := o_b2 h
  refine ev_cl0 (ins := .invokevirtual 304) kc_299 rfl rfl (a := 181) (as := [.ref 215, .int (mB s1), .int (2 : Int32)]) (rest := []) rfl rfl (Cs.deep (c_X12_throwsIf hc5) (by decide)) ?_
  rcases o_bif h with ⟨hb6, h⟩ | ⟨hb6, h⟩
  · refine ev_goT kc_299 1 (t := 43) (e := 28) (L' := [some (.ref 215), some (.int l1), some (.int l2)]) (st' := []) rfl (mB_n0t hb6) ?_
    refine ev_go kc_299 1 (i' := 44) (L' := [some (.ref 215), some (.int l1), some (.int l2)]) (st' := [.int (0 : Int32)]) (M' := M5) rfl ?_
    obtain rfl := Option.some.inj h
    rw [hk]
    exact ev_ret kc_299 rfl rfl rfl
  · refine ev_goF kc_299 1 (t := 43) (e := 28) (L' := [some (.ref 215), some (.int l1), some (.int l2)]) (st' := []) rfl (mB_n0f hb6) ?_
    refine ev_go kc_299 3 (i' := 31) (L' := [some (.ref 215), some (.int l1), some (.int l2)]) (st' := [.int l1, .ref 215, .ref 215]) (M' := M5) rfl ?_
    obtain ⟨v7, hc7, h⟩ := o_b1 h
    refine ev_cl0 (ins := .invokevirtual 89) kc_299 rfl rfl (a := 196) (as := [.ref 215, .int l1]) (rest := [.ref 215]) rfl rfl (Cs.deep (c_X12_holds (M0 := M5) hc7) (by decide)) ?_
    rcases o_bif h with ⟨hb8, h⟩ | ⟨hb8, h⟩
    · refine ev_goF kc_299 1 (t := 37) (e := 33) (L' := [some (.ref 215), some (.int l1), some (.int l2)]) (st' := [.ref 215]) rfl (mB_e0f hb8) ?_
      refine ev_go kc_299 2 (i' := 35) (L' := [some (.ref 215), some (.int l1), some (.int l2)]) (st' := [.int l2, .ref 215, .ref 215]) (M' := M5) rfl ?_
      obtain ⟨v9, hc9, h⟩ := o_b1 h
      refine ev_cl0 (ins := .invokevirtual 89) kc_299 rfl rfl (a := 196) (as := [.ref 215, .int l2]) (rest := [.ref 215]) rfl rfl (Cs.deep (c_X12_holds (M0 := M5) hc9) (by decide)) ?_
      rcases o_bif h with ⟨hb10, h⟩ | ⟨hb10, h⟩
      · refine ev_goT kc_299 1 (t := 39) (e := 37) (L' := [some (.ref 215), some (.int l1), some (.int l2)]) (st' := [.ref 215]) rfl (mB_n0t hb10) ?_
        refine ev_go kc_299 1 (i' := 40) (L' := [some (.ref 215), some (.int l1), some (.int l2)]) (st' := [.int (0 : Int32), .ref 215]) (M' := M5) rfl ?_
        exact Ev.forget (mLe.kp (mLe.kp (mLe.kp mLe.nl))) (e_X12_both_40  h hk)
      · refine ev_goF kc_299 1 (t := 39) (e := 37) (L' := [some (.ref 215), some (.int l1), some (.int l2)]) (st' := [.ref 215]) rfl (mB_n0f hb10) ?_
        exact Ev.forget (mLe.kp (mLe.kp (mLe.kp mLe.nl))) (e_X12_both_37  h hk)
    · refine ev_goT kc_299 1 (t := 37) (e := 33) (L' := [some (.ref 215), some (.int l1), some (.int l2)]) (st' := [.ref 215]) rfl (mB_e0t hb8) ?_
      exact Ev.forget (mLe.kp (mLe.kp (mLe.kp mLe.nl))) (e_X12_both_37  h hk)
def f_X12_both_15 (l1 : Int32) (l2 : Int32) (s1 : Bool) (M0 : mM) : Option (Int32 × mM) :=
  b2 (f_X12_throwsIf s1 (1 : Int32) M0) (fun v11 M11 => bif v11 then (some ((0 : Int32), M11)) else (bif decide (¬ l1 = l2) then (f_X12_both_25 l1 l2 false M11) else (f_X12_both_25 l1 l2 true M11)))
set_option maxRecDepth 8000 in
theorem e_X12_both_15 {l1 : Int32} {l2 : Int32} {s1 : Bool} {M0 : mM} {R : mZ} {out : (Int32 × mM)}  (h : f_X12_both_15 l1 l2 s1 M0 = some out) (hk : R = emW eI out) : Ev (8) 299 15 [some (.ref 215), some (.int l1), some (.int l2)] [.int (mB s1), .ref 215] M0 R := by
  unfold f_X12_both_15 at h
  refine ev_go kc_299 1 (i' := 16) (L' := [some (.ref 215), some (.int l1), some (.int l2)]) (st' := [.int (1 : Int32), .int (mB s1), .ref 215]) (M' := M0) rfl ?_
  obtain ⟨v11, M11, hc11, h⟩ := o_b2 h
  refine ev_cl0 (ins := .invokevirtual 304) kc_299 rfl rfl (a := 181) (as := [.ref 215, .int (mB s1), .int (1 : Int32)]) (rest := []) rfl rfl (Cs.deep (c_X12_throwsIf hc11) (by decide)) ?_
  rcases o_bif h with ⟨hb12, h⟩ | ⟨hb12, h⟩
  · refine ev_goT kc_299 1 (t := 43) (e := 18) (L' := [some (.ref 215), some (.int l1), some (.int l2)]) (st' := []) rfl (mB_n0t hb12) ?_
    refine ev_go kc_299 1 (i' := 44) (L' := [some (.ref 215), some (.int l1), some (.int l2)]) (st' := [.int (0 : Int32)]) (M' := M11) rfl ?_
    obtain rfl := Option.some.inj h
    rw [hk]
    exact ev_ret kc_299 rfl rfl rfl
  · refine ev_goF kc_299 1 (t := 43) (e := 18) (L' := [some (.ref 215), some (.int l1), some (.int l2)]) (st' := []) rfl (mB_n0f hb12) ?_
    rcases o_bif h with ⟨hb13, h⟩ | ⟨hb13, h⟩
    · refine ev_goT kc_299 4 (t := 24) (e := 22) (L' := [some (.ref 215), some (.int l1), some (.int l2)]) (st' := [.ref 215]) rfl hb13 ?_
      refine ev_go kc_299 1 (i' := 25) (L' := [some (.ref 215), some (.int l1), some (.int l2)]) (st' := [.int (0 : Int32), .ref 215]) (M' := M11) rfl ?_
      exact Ev.forget (mLe.kp (mLe.kp (mLe.kp mLe.nl))) (e_X12_both_25  h hk)
    · refine ev_goF kc_299 4 (t := 24) (e := 22) (L' := [some (.ref 215), some (.int l1), some (.int l2)]) (st' := [.ref 215]) rfl hb13 ?_
      refine ev_go kc_299 2 (i' := 25) (L' := [some (.ref 215), some (.int l1), some (.int l2)]) (st' := [.int (1 : Int32), .ref 215]) (M' := M11) rfl ?_
      exact Ev.forget (mLe.kp (mLe.kp (mLe.kp mLe.nl))) (e_X12_both_25  h hk)
def f_X12_both_12 (l1 : Int32) (l2 : Int32) (M0 : mM) : Option (Int32 × mM) :=
  f_X12_both_15 l1 l2 true M0
set_option maxRecDepth 8000 in
theorem e_X12_both_12 {l1 : Int32} {l2 : Int32} {M0 : mM} {R : mZ} {out : (Int32 × mM)}  (h : f_X12_both_12 l1 l2 M0 = some out) (hk : R = emW eI out) : Ev (8) 299 12 [some (.ref 215), some (.int l1), some (.int l2)] [.ref 215] M0 R := by
  unfold f_X12_both_12 at h
  refine ev_go kc_299 2 (i' := 15) (L' := [some (.ref 215), some (.int l1), some (.int l2)]) (st' := [.int (1 : Int32), .ref 215]) (M' := M0) rfl ?_
  exact Ev.forget (mLe.kp (mLe.kp (mLe.kp mLe.nl))) (e_X12_both_15  h hk)
def f_X12_both (p1 : Int32) (p2 : Int32) (M0 : mM) : Option (Int32 × mM) :=
  wr (mst M0 215 0 (0 : Int32)) (fun M14 => b1 (f_X12_nobody p1 M14) (fun v15 => bif v15 then (f_X12_both_12 p1 p2 M14) else (b1 (f_X12_nobody p2 M14) (fun v17 => bif v17 then (f_X12_both_12 p1 p2 M14) else (f_X12_both_15 p1 p2 false M14)))))
set_option maxRecDepth 8000 in
theorem c_X12_both {p1 : Int32} {p2 : Int32} {M0 : mM} {out : (Int32 × mM)} (h : f_X12_both p1 p2 M0 = some out) : Cs (8) 299 [.ref 215, .int p1, .int p2] M0 (emW eI out) := by
  generalize hk : emW eI out = R
  replace hk := hk.symm
  unfold f_X12_both at h
  show Ev (8) 299 0 [some (.ref 215), some (.int p1), some (.int p2)] [] M0 R
  refine ev_go kc_299 2 (i' := 2) (L' := [some (.ref 215), some (.int p1), some (.int p2)]) (st' := [.int (0 : Int32), .ref 215]) (M' := M0) rfl ?_
  obtain ⟨M14, hM14, h⟩ := o_wr h
  refine ev_pf kc_299 rfl rfl rfl rfl (fun hc => absurd hc (by decide)) hM14 ?_
  refine ev_go kc_299 3 (i' := 6) (L' := [some (.ref 215), some (.int p1), some (.int p2)]) (st' := [.int p1, .ref 215, .ref 215]) (M' := M14) rfl ?_
  obtain ⟨v15, hc15, h⟩ := o_b1 h
  refine ev_cl0 (ins := .invokevirtual 329) kc_299 rfl rfl (a := 201) (as := [.ref 215, .int p1]) (rest := [.ref 215]) rfl rfl (Cs.deep (c_X12_nobody (M0 := M14) hc15) (by decide)) ?_
  rcases o_bif h with ⟨hb16, h⟩ | ⟨hb16, h⟩
  · refine ev_goT kc_299 1 (t := 12) (e := 8) (L' := [some (.ref 215), some (.int p1), some (.int p2)]) (st' := [.ref 215]) rfl (mB_n0t hb16) ?_
    exact Ev.forget (mLe.kp (mLe.kp (mLe.kp mLe.nl))) (e_X12_both_12  h hk)
  · refine ev_goF kc_299 1 (t := 12) (e := 8) (L' := [some (.ref 215), some (.int p1), some (.int p2)]) (st' := [.ref 215]) rfl (mB_n0f hb16) ?_
    refine ev_go kc_299 2 (i' := 10) (L' := [some (.ref 215), some (.int p1), some (.int p2)]) (st' := [.int p2, .ref 215, .ref 215]) (M' := M14) rfl ?_
    obtain ⟨v17, hc17, h⟩ := o_b1 h
    refine ev_cl0 (ins := .invokevirtual 329) kc_299 rfl rfl (a := 201) (as := [.ref 215, .int p2]) (rest := [.ref 215]) rfl rfl (Cs.deep (c_X12_nobody (M0 := M14) hc17) (by decide)) ?_
    rcases o_bif h with ⟨hb18, h⟩ | ⟨hb18, h⟩
    · refine ev_goF kc_299 1 (t := 14) (e := 12) (L' := [some (.ref 215), some (.int p1), some (.int p2)]) (st' := [.ref 215]) rfl (mB_e0f hb18) ?_
      exact Ev.forget (mLe.kp (mLe.kp (mLe.kp mLe.nl))) (e_X12_both_12  h hk)
    · refine ev_goT kc_299 1 (t := 14) (e := 12) (L' := [some (.ref 215), some (.int p1), some (.int p2)]) (st' := [.ref 215]) rfl (mB_e0t hb18) ?_
      refine ev_go kc_299 1 (i' := 15) (L' := [some (.ref 215), some (.int p1), some (.int p2)]) (st' := [.int (0 : Int32), .ref 215]) (M' := M14) rfl ?_
      exact Ev.forget (mLe.kp (mLe.kp (mLe.kp mLe.nl))) (e_X12_both_15  h hk)
/-- WakeTowerModel.partBy(II)I: 300, R -/
theorem kc_300 : mKc 300 = k_X12_partBy := rfl
def f_X12_partBy_21 (l1 : Int32) (l2 : Int32) (l3 : Int32) (l4 : Int32) (l5 : Int32) (l6 : Int32) (l7 : Int32) (M0 : mM) : Option ((Int32 ⊕ (Int32 × Int32)) ⊕ (Int32 × Int32)) :=
  bif decide ((256 : Int32) ≤ l7) then (some (.inl (.inr ((mMax l4 l6), (l5 + (1 : Int32)))))) else (b1 (f_X12_feelsSo l7 l1 l3 M0) (fun v2 => bif v2 then (gd (mIn (((8 : Int32) * l7) + l2) 2048) (gd (mIn (((8 : Int32) * l5) + l2) 2048) (bif decide (¬ (M0 229 (ix (((8 : Int32) * l7) + l2))) = (M0 229 (ix (((8 : Int32) * l5) + l2)))) then (some (.inr ((l6 + (0 : Int32)), (l7 + (1 : Int32))))) else (some (.inr ((l6 + (1 : Int32)), (l7 + (1 : Int32)))))))) else (some (.inr ((l6 + (0 : Int32)), (l7 + (1 : Int32)))))))
set_option maxRecDepth 8000 in
theorem e_X12_partBy_21 {l1 : Int32} {l2 : Int32} {l3 : Int32} {l4 : Int32} {l5 : Int32} {l6 : Int32} {l7 : Int32} {M0 : mM} {R : mZ} {out : ((Int32 ⊕ (Int32 × Int32)) ⊕ (Int32 × Int32))}  (h : f_X12_partBy_21 l1 l2 l3 l4 l5 l6 l7 M0 = some out) (hk : (∀ s' : Int32 × Int32, out = .inr s' → Ev (8) 300 21 [some (.ref 215), some (.int l1), some (.int l2), some (.int l3), some (.int l4), some (.int l5), some (.int s'.1), some (.int s'.2)] [] M0 R) ∧ (∀ e2 : (Int32 ⊕ (Int32 × Int32)), out = .inl e2 → (∀ s' : Int32 × Int32, e2 = .inr s' → Ev (8) 300 7 [some (.ref 215), some (.int l1), some (.int l2), some (.int l3), some (.int s'.1), some (.int s'.2), none, none] [] M0 R) ∧ (∀ e1 : Int32, e2 = .inl e1 → R = emR eI M0 e1))) : Ev (8) 300 21 [some (.ref 215), some (.int l1), some (.int l2), some (.int l3), some (.int l4), some (.int l5), some (.int l6), some (.int l7)] [] M0 R := by
  unfold f_X12_partBy_21 at h
  rcases o_bif h with ⟨hb1, h⟩ | ⟨hb1, h⟩
  · refine ev_goT kc_300 3 (t := 55) (e := 24) (L' := [some (.ref 215), some (.int l1), some (.int l2), some (.int l3), some (.int l4), some (.int l5), some (.int l6), some (.int l7)]) (st' := []) rfl hb1 ?_
    refine ev_go kc_300 2 (i' := 57) (L' := [some (.ref 215), some (.int l1), some (.int l2), some (.int l3), some (.int l4), some (.int l5), some (.int l6), some (.int l7)]) (st' := [.int l6, .int l4]) (M' := M0) rfl ?_
    refine ev_pm kc_300 rfl rfl rfl rfl (as := [.int l4, .int l6]) (rest := []) rfl rfl rfl (v := some (mMax l4 l6)) rfl ?_
    refine ev_go kc_300 3 (i' := 7) (L' := [some (.ref 215), some (.int l1), some (.int l2), some (.int l3), some (.int (mMax l4 l6)), some (.int (l5 + (1 : Int32))), some (.int l6), some (.int l7)]) (st' := []) (M' := M0) rfl ?_
    obtain rfl := Option.some.inj h
    exact Ev.forget (mLe.kp (mLe.kp (mLe.kp (mLe.kp (mLe.kp (mLe.kp (mLe.sk (mLe.sk mLe.nl)))))))) ((hk.2 _ rfl).1 ((mMax l4 l6), (l5 + (1 : Int32))) rfl)
  · refine ev_goF kc_300 3 (t := 55) (e := 24) (L' := [some (.ref 215), some (.int l1), some (.int l2), some (.int l3), some (.int l4), some (.int l5), some (.int l6), some (.int l7)]) (st' := []) rfl hb1 ?_
    refine ev_go kc_300 5 (i' := 29) (L' := [some (.ref 215), some (.int l1), some (.int l2), some (.int l3), some (.int l4), some (.int l5), some (.int l6), some (.int l7)]) (st' := [.int l3, .int l1, .int l7, .ref 215, .int l6]) (M' := M0) rfl ?_
    obtain ⟨v2, hc2, h⟩ := o_b1 h
    refine ev_cl0 (ins := .invokevirtual 415) kc_300 rfl rfl (a := 292) (as := [.ref 215, .int l7, .int l1, .int l3]) (rest := [.int l6]) rfl rfl (Cs.deep (c_X12_feelsSo (M0 := M0) hc2) (by decide)) ?_
    rcases o_bif h with ⟨hb3, h⟩ | ⟨hb3, h⟩
    · refine ev_goF kc_300 1 (t := 50) (e := 31) (L' := [some (.ref 215), some (.int l1), some (.int l2), some (.int l3), some (.int l4), some (.int l5), some (.int l6), some (.int l7)]) (st' := [.int l6]) rfl (mB_e0f hb3) ?_
      refine ev_go kc_300 7 (i' := 38) (L' := [some (.ref 215), some (.int l1), some (.int l2), some (.int l3), some (.int l4), some (.int l5), some (.int l6), some (.int l7)]) (st' := [.int (((8 : Int32) * l7) + l2), .ref 229, .int l6]) (M' := M0) rfl ?_
      obtain ⟨hg4, h⟩ := o_gd h
      refine ev_ia kc_300 rfl rfl hg4 ?_
      refine ev_go kc_300 7 (i' := 46) (L' := [some (.ref 215), some (.int l1), some (.int l2), some (.int l3), some (.int l4), some (.int l5), some (.int l6), some (.int l7)]) (st' := [.int (((8 : Int32) * l5) + l2), .ref 229, .int (M0 229 (ix (((8 : Int32) * l7) + l2))), .int l6]) (M' := M0) rfl ?_
      obtain ⟨hg5, h⟩ := o_gd h
      refine ev_ia kc_300 rfl rfl hg5 ?_
      rcases o_bif h with ⟨hb6, h⟩ | ⟨hb6, h⟩
      · refine ev_goT kc_300 1 (t := 50) (e := 48) (L' := [some (.ref 215), some (.int l1), some (.int l2), some (.int l3), some (.int l4), some (.int l5), some (.int l6), some (.int l7)]) (st' := [.int l6]) rfl hb6 ?_
        refine ev_go kc_300 5 (i' := 21) (L' := [some (.ref 215), some (.int l1), some (.int l2), some (.int l3), some (.int l4), some (.int l5), some (.int (l6 + (0 : Int32))), some (.int (l7 + (1 : Int32)))]) (st' := []) (M' := M0) rfl ?_
        obtain rfl := Option.some.inj h
        exact Ev.forget (mLe.kp (mLe.kp (mLe.kp (mLe.kp (mLe.kp (mLe.kp (mLe.kp (mLe.kp mLe.nl)))))))) (hk.1 ((l6 + (0 : Int32)), (l7 + (1 : Int32))) rfl)
      · refine ev_goF kc_300 1 (t := 50) (e := 48) (L' := [some (.ref 215), some (.int l1), some (.int l2), some (.int l3), some (.int l4), some (.int l5), some (.int l6), some (.int l7)]) (st' := [.int l6]) rfl hb6 ?_
        refine ev_go kc_300 6 (i' := 21) (L' := [some (.ref 215), some (.int l1), some (.int l2), some (.int l3), some (.int l4), some (.int l5), some (.int (l6 + (1 : Int32))), some (.int (l7 + (1 : Int32)))]) (st' := []) (M' := M0) rfl ?_
        obtain rfl := Option.some.inj h
        exact Ev.forget (mLe.kp (mLe.kp (mLe.kp (mLe.kp (mLe.kp (mLe.kp (mLe.kp (mLe.kp mLe.nl)))))))) (hk.1 ((l6 + (1 : Int32)), (l7 + (1 : Int32))) rfl)
    · refine ev_goT kc_300 1 (t := 50) (e := 31) (L' := [some (.ref 215), some (.int l1), some (.int l2), some (.int l3), some (.int l4), some (.int l5), some (.int l6), some (.int l7)]) (st' := [.int l6]) rfl (mB_e0t hb3) ?_
      refine ev_go kc_300 5 (i' := 21) (L' := [some (.ref 215), some (.int l1), some (.int l2), some (.int l3), some (.int l4), some (.int l5), some (.int (l6 + (0 : Int32))), some (.int (l7 + (1 : Int32)))]) (st' := []) (M' := M0) rfl ?_
      obtain rfl := Option.some.inj h
      exact Ev.forget (mLe.kp (mLe.kp (mLe.kp (mLe.kp (mLe.kp (mLe.kp (mLe.kp (mLe.kp mLe.nl)))))))) (hk.1 ((l6 + (0 : Int32)), (l7 + (1 : Int32))) rfl)
def f_X12_partBy_l21 (l1 : Int32) (l2 : Int32) (l3 : Int32) (l4 : Int32) (l5 : Int32) (l6 : Int32) (l7 : Int32) (M0 : mM) : Option (Int32 ⊕ (Int32 × Int32)) :=
  wh 100000 (fun s : Int32 × Int32 => f_X12_partBy_21 l1 l2 l3 l4 l5 s.1 s.2 M0) (l6, l7)
theorem e_X12_partBy_l21 {l1 : Int32} {l2 : Int32} {l3 : Int32} {l4 : Int32} {l5 : Int32} {l6 : Int32} {l7 : Int32} {M0 : mM} {R : mZ} {out : (Int32 ⊕ (Int32 × Int32))}  (h : f_X12_partBy_l21 l1 l2 l3 l4 l5 l6 l7 M0 = some out) (hk : (∀ s' : Int32 × Int32, out = .inr s' → Ev (8) 300 7 [some (.ref 215), some (.int l1), some (.int l2), some (.int l3), some (.int s'.1), some (.int s'.2), none, none] [] M0 R) ∧ (∀ e1 : Int32, out = .inl e1 → R = emR eI M0 e1)) : Ev (8) 300 21 [some (.ref 215), some (.int l1), some (.int l2), some (.int l3), some (.int l4), some (.int l5), some (.int l6), some (.int l7)] [] M0 R := by
  unfold f_X12_partBy_l21 at h
  exact wh_ev (P := fun s : Int32 × Int32 => Ev (8) 300 21 [some (.ref 215), some (.int l1), some (.int l2), some (.int l3), some (.int l4), some (.int l5), some (.int s.1), some (.int s.2)] [] M0 R) (Q := fun e : (Int32 ⊕ (Int32 × Int32)) => (∀ s' : Int32 × Int32, e = .inr s' → Ev (8) 300 7 [some (.ref 215), some (.int l1), some (.int l2), some (.int l3), some (.int s'.1), some (.int s'.2), none, none] [] M0 R) ∧ (∀ e1 : Int32, e = .inl e1 → R = emR eI M0 e1)) (fun s o hb h1 h2 => e_X12_partBy_21  hb ⟨h1, h2⟩) 100000 _ _ h hk
def f_X12_partBy_7 (l1 : Int32) (l2 : Int32) (l3 : Int32) (l4 : Int32) (l5 : Int32) (M0 : mM) : Option (Int32 ⊕ (Int32 × Int32)) :=
  bif decide ((256 : Int32) ≤ l5) then (some (.inl l4)) else (b1 (f_X12_feelsSo l5 l1 l3 M0) (fun v8 => bif v8 then (f_X12_partBy_l21 l1 l2 l3 l4 l5 (0 : Int32) (0 : Int32) M0) else (some (.inr (l4, (l5 + (1 : Int32)))))))
set_option maxRecDepth 8000 in
theorem e_X12_partBy_7 {l1 : Int32} {l2 : Int32} {l3 : Int32} {l4 : Int32} {l5 : Int32} {M0 : mM} {R : mZ} {out : (Int32 ⊕ (Int32 × Int32))}  (h : f_X12_partBy_7 l1 l2 l3 l4 l5 M0 = some out) (hk : (∀ s' : Int32 × Int32, out = .inr s' → Ev (8) 300 7 [some (.ref 215), some (.int l1), some (.int l2), some (.int l3), some (.int s'.1), some (.int s'.2), none, none] [] M0 R) ∧ (∀ e1 : Int32, out = .inl e1 → R = emR eI M0 e1)) : Ev (8) 300 7 [some (.ref 215), some (.int l1), some (.int l2), some (.int l3), some (.int l4), some (.int l5), none, none] [] M0 R := by
  unfold f_X12_partBy_7 at h
  rcases o_bif h with ⟨hb7, h⟩ | ⟨hb7, h⟩
  · refine ev_goT kc_300 3 (t := 61) (e := 10) (L' := [some (.ref 215), some (.int l1), some (.int l2), some (.int l3), some (.int l4), some (.int l5), none, none]) (st' := []) rfl hb7 ?_
    refine ev_go kc_300 1 (i' := 62) (L' := [some (.ref 215), some (.int l1), some (.int l2), some (.int l3), some (.int l4), some (.int l5), none, none]) (st' := [.int l4]) (M' := M0) rfl ?_
    obtain rfl := Option.some.inj h
    rw [show _ from (hk.2 _ rfl)]
    exact ev_ret kc_300 rfl rfl rfl
  · refine ev_goF kc_300 3 (t := 61) (e := 10) (L' := [some (.ref 215), some (.int l1), some (.int l2), some (.int l3), some (.int l4), some (.int l5), none, none]) (st' := []) rfl hb7 ?_
    refine ev_go kc_300 4 (i' := 14) (L' := [some (.ref 215), some (.int l1), some (.int l2), some (.int l3), some (.int l4), some (.int l5), none, none]) (st' := [.int l3, .int l1, .int l5, .ref 215]) (M' := M0) rfl ?_
    obtain ⟨v8, hc8, h⟩ := o_b1 h
    refine ev_cl0 (ins := .invokevirtual 415) kc_300 rfl rfl (a := 292) (as := [.ref 215, .int l5, .int l1, .int l3]) (rest := []) rfl rfl (Cs.deep (c_X12_feelsSo (M0 := M0) hc8) (by decide)) ?_
    rcases o_bif h with ⟨hb9, h⟩ | ⟨hb9, h⟩
    · refine ev_goT kc_300 1 (t := 17) (e := 16) (L' := [some (.ref 215), some (.int l1), some (.int l2), some (.int l3), some (.int l4), some (.int l5), none, none]) (st' := []) rfl (mB_n0t hb9) ?_
      refine ev_go kc_300 4 (i' := 21) (L' := [some (.ref 215), some (.int l1), some (.int l2), some (.int l3), some (.int l4), some (.int l5), some (.int (0 : Int32)), some (.int (0 : Int32))]) (st' := []) (M' := M0) rfl ?_
      exact Ev.forget (mLe.kp (mLe.kp (mLe.kp (mLe.kp (mLe.kp (mLe.kp (mLe.kp (mLe.kp mLe.nl)))))))) (e_X12_partBy_l21  h hk)
    · refine ev_goF kc_300 1 (t := 17) (e := 16) (L' := [some (.ref 215), some (.int l1), some (.int l2), some (.int l3), some (.int l4), some (.int l5), none, none]) (st' := []) rfl (mB_n0f hb9) ?_
      refine ev_go kc_300 3 (i' := 7) (L' := [some (.ref 215), some (.int l1), some (.int l2), some (.int l3), some (.int l4), some (.int (l5 + (1 : Int32))), none, none]) (st' := []) (M' := M0) rfl ?_
      obtain rfl := Option.some.inj h
      exact Ev.forget (mLe.kp (mLe.kp (mLe.kp (mLe.kp (mLe.kp (mLe.kp (mLe.sk (mLe.sk mLe.nl)))))))) (hk.1 (l4, (l5 + (1 : Int32))) rfl)
def f_X12_partBy_l7 (l1 : Int32) (l2 : Int32) (l3 : Int32) (l4 : Int32) (l5 : Int32) (M0 : mM) : Option Int32 :=
  wh 100000 (fun s : Int32 × Int32 => f_X12_partBy_7 l1 l2 l3 s.1 s.2 M0) (l4, l5)
theorem e_X12_partBy_l7 {l1 : Int32} {l2 : Int32} {l3 : Int32} {l4 : Int32} {l5 : Int32} {M0 : mM} {R : mZ} {out : Int32}  (h : f_X12_partBy_l7 l1 l2 l3 l4 l5 M0 = some out) (hk : R = emR eI M0 out) : Ev (8) 300 7 [some (.ref 215), some (.int l1), some (.int l2), some (.int l3), some (.int l4), some (.int l5), none, none] [] M0 R := by
  unfold f_X12_partBy_l7 at h
  exact wh_ev (P := fun s : Int32 × Int32 => Ev (8) 300 7 [some (.ref 215), some (.int l1), some (.int l2), some (.int l3), some (.int s.1), some (.int s.2), none, none] [] M0 R) (Q := fun e : Int32 => R = emR eI M0 e) (fun s o hb h1 h2 => e_X12_partBy_7  hb ⟨h1, h2⟩) 100000 _ _ h hk
def f_X12_partBy (p1 : Int32) (p2 : Int32) (M0 : mM) : Option Int32 :=
  b1 (f_X12_sleepersUp M0) (fun v10 => f_X12_partBy_l7 p1 p2 v10 (0 : Int32) (0 : Int32) M0)
set_option maxRecDepth 8000 in
theorem c_X12_partBy {p1 : Int32} {p2 : Int32} {M0 : mM} {out : Int32} (h : f_X12_partBy p1 p2 M0 = some out) : Cs (8) 300 [.ref 215, .int p1, .int p2] M0 (emR eI M0 out) := by
  generalize hk : emR eI M0 out = R
  replace hk := hk.symm
  unfold f_X12_partBy at h
  show Ev (8) 300 0 [some (.ref 215), some (.int p1), some (.int p2), none, none, none, none, none] [] M0 R
  refine ev_go kc_300 1 (i' := 1) (L' := [some (.ref 215), some (.int p1), some (.int p2), none, none, none, none, none]) (st' := [.ref 215]) (M' := M0) rfl ?_
  obtain ⟨v10, hc10, h⟩ := o_b1 h
  refine ev_cl0 (ins := .invokevirtual 412) kc_300 rfl rfl (a := 293) (as := [.ref 215]) (rest := []) rfl rfl (Cs.deep (c_X12_sleepersUp (M0 := M0) hc10) (by decide)) ?_
  refine ev_go kc_300 5 (i' := 7) (L' := [some (.ref 215), some (.int p1), some (.int p2), some (.int v10), some (.int (0 : Int32)), some (.int (0 : Int32)), none, none]) (st' := []) (M' := M0) rfl ?_
  exact Ev.forget (mLe.kp (mLe.kp (mLe.kp (mLe.kp (mLe.kp (mLe.kp (mLe.sk (mLe.sk mLe.nl)))))))) (e_X12_partBy_l7  h hk)
/-- WakeTowerModel.ask(I)I: 301, W -/
theorem kc_301 : mKc 301 = k_X12_ask := rfl
def f_X12_ask_46 (l1 : Int32) (l3 : Int32) (l4 : Int32) (l5 : Int32) (s0 : Int32) (M0 : mM) : Option ((Int32 × mM) ⊕ (Int32 × Int32 × Int32)) :=
  some (.inr (s0, (mMin l3 l5), (l4 + (1 : Int32))))
set_option maxRecDepth 8000 in
theorem e_X12_ask_46 {l1 : Int32} {l3 : Int32} {l4 : Int32} {l5 : Int32} {s0 : Int32} {M0 : mM} {R : mZ} {out : ((Int32 × mM) ⊕ (Int32 × Int32 × Int32))}  (h : f_X12_ask_46 l1 l3 l4 l5 s0 M0 = some out) (hk : (∀ s' : Int32 × Int32 × Int32, out = .inr s' → Ev (9) 301 22 [some (.ref 215), some (.int l1), some (.int s'.1), some (.int s'.2.1), some (.int s'.2.2), none] [] M0 R) ∧ (∀ e1 : (Int32 × mM), out = .inl e1 → R = emW eI e1)) : Ev (9) 301 46 [some (.ref 215), some (.int l1), none, some (.int l3), some (.int l4), some (.int l5)] [.int s0] M0 R := by
  unfold f_X12_ask_46 at h
  refine ev_go kc_301 3 (i' := 49) (L' := [some (.ref 215), some (.int l1), some (.int s0), some (.int l3), some (.int l4), some (.int l5)]) (st' := [.int l5, .int l3]) (M' := M0) rfl ?_
  refine ev_pm kc_301 rfl rfl rfl rfl (as := [.int l3, .int l5]) (rest := []) rfl rfl rfl (v := some (mMin l3 l5)) rfl ?_
  refine ev_go kc_301 3 (i' := 22) (L' := [some (.ref 215), some (.int l1), some (.int s0), some (.int (mMin l3 l5)), some (.int (l4 + (1 : Int32))), some (.int l5)]) (st' := []) (M' := M0) rfl ?_
  obtain rfl := Option.some.inj h
  exact Ev.forget (mLe.kp (mLe.kp (mLe.kp (mLe.kp (mLe.kp (mLe.sk mLe.nl)))))) (hk.1 (s0, (mMin l3 l5), (l4 + (1 : Int32))) rfl)
def f_X12_ask_39 (l1 : Int32) (l2 : Int32) (l3 : Int32) (l4 : Int32) (s0 : Int32) (M0 : mM) : Option ((Int32 × mM) ⊕ (Int32 × Int32 × Int32)) :=
  bif decide (l3 ≤ s0) then (f_X12_ask_46 l1 l3 l4 s0 l2 M0) else (f_X12_ask_46 l1 l3 l4 s0 l4 M0)
set_option maxRecDepth 8000 in
theorem e_X12_ask_39 {l1 : Int32} {l2 : Int32} {l3 : Int32} {l4 : Int32} {s0 : Int32} {M0 : mM} {R : mZ} {out : ((Int32 × mM) ⊕ (Int32 × Int32 × Int32))}  (h : f_X12_ask_39 l1 l2 l3 l4 s0 M0 = some out) (hk : (∀ s' : Int32 × Int32 × Int32, out = .inr s' → Ev (9) 301 22 [some (.ref 215), some (.int l1), some (.int s'.1), some (.int s'.2.1), some (.int s'.2.2), none] [] M0 R) ∧ (∀ e1 : (Int32 × mM), out = .inl e1 → R = emW eI e1)) : Ev (9) 301 39 [some (.ref 215), some (.int l1), some (.int l2), some (.int l3), some (.int l4), none] [.int s0] M0 R := by
  unfold f_X12_ask_39 at h
  rcases o_bif h with ⟨hb1, h⟩ | ⟨hb1, h⟩
  · refine ev_goT kc_301 4 (t := 45) (e := 43) (L' := [some (.ref 215), some (.int l1), some (.int l2), some (.int l3), some (.int l4), some (.int s0)]) (st' := []) rfl hb1 ?_
    refine ev_go kc_301 1 (i' := 46) (L' := [some (.ref 215), some (.int l1), some (.int l2), some (.int l3), some (.int l4), some (.int s0)]) (st' := [.int l2]) (M' := M0) rfl ?_
    exact Ev.forget (mLe.kp (mLe.kp (mLe.sk (mLe.kp (mLe.kp (mLe.kp mLe.nl)))))) (e_X12_ask_46  h hk)
  · refine ev_goF kc_301 4 (t := 45) (e := 43) (L' := [some (.ref 215), some (.int l1), some (.int l2), some (.int l3), some (.int l4), some (.int s0)]) (st' := []) rfl hb1 ?_
    refine ev_go kc_301 2 (i' := 46) (L' := [some (.ref 215), some (.int l1), some (.int l2), some (.int l3), some (.int l4), some (.int s0)]) (st' := [.int l4]) (M' := M0) rfl ?_
    exact Ev.forget (mLe.kp (mLe.kp (mLe.sk (mLe.kp (mLe.kp (mLe.kp mLe.nl)))))) (e_X12_ask_46  h hk)
def f_X12_ask_38 (l1 : Int32) (l2 : Int32) (l3 : Int32) (l4 : Int32) (M0 : mM) : Option ((Int32 × mM) ⊕ (Int32 × Int32 × Int32)) :=
  f_X12_ask_39 l1 l2 l3 l4 (1000000 : Int32) M0
set_option maxRecDepth 8000 in
theorem e_X12_ask_38 {l1 : Int32} {l2 : Int32} {l3 : Int32} {l4 : Int32} {M0 : mM} {R : mZ} {out : ((Int32 × mM) ⊕ (Int32 × Int32 × Int32))}  (h : f_X12_ask_38 l1 l2 l3 l4 M0 = some out) (hk : (∀ s' : Int32 × Int32 × Int32, out = .inr s' → Ev (9) 301 22 [some (.ref 215), some (.int l1), some (.int s'.1), some (.int s'.2.1), some (.int s'.2.2), none] [] M0 R) ∧ (∀ e1 : (Int32 × mM), out = .inl e1 → R = emW eI e1)) : Ev (9) 301 38 [some (.ref 215), some (.int l1), some (.int l2), some (.int l3), some (.int l4), none] [] M0 R := by
  unfold f_X12_ask_38 at h
  refine ev_go kc_301 1 (i' := 39) (L' := [some (.ref 215), some (.int l1), some (.int l2), some (.int l3), some (.int l4), none]) (st' := [.int (1000000 : Int32)]) (M' := M0) rfl ?_
  exact Ev.forget (mLe.kp (mLe.kp (mLe.kp (mLe.kp (mLe.kp (mLe.sk mLe.nl)))))) (e_X12_ask_39  h hk)
def f_X12_ask_22 (l1 : Int32) (l2 : Int32) (l3 : Int32) (l4 : Int32) (M0 : mM) : Option ((Int32 × mM) ⊕ (Int32 × Int32 × Int32)) :=
  b1 (f_X12_people M0) (fun v2 => bif decide (v2 ≤ l4) then (some (.inl (l2, M0))) else (bif decide (l4 = l1) then (f_X12_ask_38 l1 l2 l3 l4 M0) else (b1 (f_X12_holds l4 M0) (fun v5 => bif v5 then (b1 (f_X12_partBy l1 l4 M0) (fun v7 => f_X12_ask_39 l1 l2 l3 l4 v7 M0)) else (f_X12_ask_38 l1 l2 l3 l4 M0)))))
set_option maxRecDepth 8000 in
theorem e_X12_ask_22 {l1 : Int32} {l2 : Int32} {l3 : Int32} {l4 : Int32} {M0 : mM} {R : mZ} {out : ((Int32 × mM) ⊕ (Int32 × Int32 × Int32))}  (h : f_X12_ask_22 l1 l2 l3 l4 M0 = some out) (hk : (∀ s' : Int32 × Int32 × Int32, out = .inr s' → Ev (9) 301 22 [some (.ref 215), some (.int l1), some (.int s'.1), some (.int s'.2.1), some (.int s'.2.2), none] [] M0 R) ∧ (∀ e1 : (Int32 × mM), out = .inl e1 → R = emW eI e1)) : Ev (9) 301 22 [some (.ref 215), some (.int l1), some (.int l2), some (.int l3), some (.int l4), none] [] M0 R := by
  unfold f_X12_ask_22 at h
  refine ev_go kc_301 2 (i' := 24) (L' := [some (.ref 215), some (.int l1), some (.int l2), some (.int l3), some (.int l4), none]) (st' := [.ref 215, .int l4]) (M' := M0) rfl ?_
  obtain ⟨v2, hc2, h⟩ := o_b1 h
  refine ev_cl0 (ins := .invokevirtual 71) kc_301 rfl rfl (a := 190) (as := [.ref 215]) (rest := [.int l4]) rfl rfl (Cs.deep (c_X12_people (M0 := M0) hc2) (by decide)) ?_
  rcases o_bif h with ⟨hb3, h⟩ | ⟨hb3, h⟩
  · refine ev_goT kc_301 1 (t := 53) (e := 26) (L' := [some (.ref 215), some (.int l1), some (.int l2), some (.int l3), some (.int l4), none]) (st' := []) rfl hb3 ?_
    refine ev_go kc_301 1 (i' := 54) (L' := [some (.ref 215), some (.int l1), some (.int l2), some (.int l3), some (.int l4), none]) (st' := [.int l2]) (M' := M0) rfl ?_
    obtain rfl := Option.some.inj h
    rw [show _ from (hk.2 _ rfl)]
    exact ev_ret kc_301 rfl rfl rfl
  · refine ev_goF kc_301 1 (t := 53) (e := 26) (L' := [some (.ref 215), some (.int l1), some (.int l2), some (.int l3), some (.int l4), none]) (st' := []) rfl hb3 ?_
    rcases o_bif h with ⟨hb4, h⟩ | ⟨hb4, h⟩
    · refine ev_goT kc_301 3 (t := 38) (e := 29) (L' := [some (.ref 215), some (.int l1), some (.int l2), some (.int l3), some (.int l4), none]) (st' := []) rfl hb4 ?_
      exact Ev.forget (mLe.kp (mLe.kp (mLe.kp (mLe.kp (mLe.kp (mLe.sk mLe.nl)))))) (e_X12_ask_38  h hk)
    · refine ev_goF kc_301 3 (t := 38) (e := 29) (L' := [some (.ref 215), some (.int l1), some (.int l2), some (.int l3), some (.int l4), none]) (st' := []) rfl hb4 ?_
      refine ev_go kc_301 2 (i' := 31) (L' := [some (.ref 215), some (.int l1), some (.int l2), some (.int l3), some (.int l4), none]) (st' := [.int l4, .ref 215]) (M' := M0) rfl ?_
      obtain ⟨v5, hc5, h⟩ := o_b1 h
      refine ev_cl0 (ins := .invokevirtual 89) kc_301 rfl rfl (a := 196) (as := [.ref 215, .int l4]) (rest := []) rfl rfl (Cs.deep (c_X12_holds (M0 := M0) hc5) (by decide)) ?_
      rcases o_bif h with ⟨hb6, h⟩ | ⟨hb6, h⟩
      · refine ev_goF kc_301 1 (t := 38) (e := 33) (L' := [some (.ref 215), some (.int l1), some (.int l2), some (.int l3), some (.int l4), none]) (st' := []) rfl (mB_e0f hb6) ?_
        refine ev_go kc_301 3 (i' := 36) (L' := [some (.ref 215), some (.int l1), some (.int l2), some (.int l3), some (.int l4), none]) (st' := [.int l4, .int l1, .ref 215]) (M' := M0) rfl ?_
        obtain ⟨v7, hc7, h⟩ := o_b1 h
        refine ev_cl0 (ins := .invokevirtual 427) kc_301 rfl rfl (a := 300) (as := [.ref 215, .int l1, .int l4]) (rest := []) rfl rfl (Cs.deep (c_X12_partBy (M0 := M0) hc7) (by decide)) ?_
        refine ev_go kc_301 1 (i' := 39) (L' := [some (.ref 215), some (.int l1), some (.int l2), some (.int l3), some (.int l4), none]) (st' := [.int v7]) (M' := M0) rfl ?_
        exact Ev.forget (mLe.kp (mLe.kp (mLe.kp (mLe.kp (mLe.kp (mLe.sk mLe.nl)))))) (e_X12_ask_39  h hk)
      · refine ev_goT kc_301 1 (t := 38) (e := 33) (L' := [some (.ref 215), some (.int l1), some (.int l2), some (.int l3), some (.int l4), none]) (st' := []) rfl (mB_e0t hb6) ?_
        exact Ev.forget (mLe.kp (mLe.kp (mLe.kp (mLe.kp (mLe.kp (mLe.sk mLe.nl)))))) (e_X12_ask_38  h hk)
def f_X12_ask_l22 (l1 : Int32) (l2 : Int32) (l3 : Int32) (l4 : Int32) (M0 : mM) : Option (Int32 × mM) :=
  wh 100000 (fun s : Int32 × Int32 × Int32 => f_X12_ask_22 l1 s.1 s.2.1 s.2.2 M0) (l2, l3, l4)
theorem e_X12_ask_l22 {l1 : Int32} {l2 : Int32} {l3 : Int32} {l4 : Int32} {M0 : mM} {R : mZ} {out : (Int32 × mM)}  (h : f_X12_ask_l22 l1 l2 l3 l4 M0 = some out) (hk : R = emW eI out) : Ev (9) 301 22 [some (.ref 215), some (.int l1), some (.int l2), some (.int l3), some (.int l4), none] [] M0 R := by
  unfold f_X12_ask_l22 at h
  exact wh_ev (P := fun s : Int32 × Int32 × Int32 => Ev (9) 301 22 [some (.ref 215), some (.int l1), some (.int s.1), some (.int s.2.1), some (.int s.2.2), none] [] M0 R) (Q := fun e : (Int32 × mM) => R = emW eI e) (fun s o hb h1 h2 => e_X12_ask_22  hb ⟨h1, h2⟩) 100000 _ _ h hk
def f_X12_ask (p1 : Int32) (M0 : mM) : Option (Int32 × mM) :=
  b2 (f_X12_cannotFeel p1 M0) (fun v8 M8 => bif v8 then (some ((0 : Int32), M8)) else (b2 (f_X12_laysSleepers M8) (fun v10 M10 => b1 (f_X12_feelTo p1 (-1 : Int32) M10) (fun v11 => bif decide ((2 : Int32) ≤ v11) then (f_X12_ask_l22 p1 (-1 : Int32) (1000000 : Int32) (0 : Int32) M10) else (some ((-1 : Int32), M10))))))
set_option maxRecDepth 8000 in
theorem c_X12_ask {p1 : Int32} {M0 : mM} {out : (Int32 × mM)} (h : f_X12_ask p1 M0 = some out) : Cs (9) 301 [.ref 215, .int p1] M0 (emW eI out) := by
  generalize hk : emW eI out = R
  replace hk := hk.symm
  unfold f_X12_ask at h
  show Ev (9) 301 0 [some (.ref 215), some (.int p1), none, none, none, none] [] M0 R
  refine ev_go kc_301 2 (i' := 2) (L' := [some (.ref 215), some (.int p1), none, none, none, none]) (st' := [.int p1, .ref 215]) (M' := M0) rfl ?_
  obtain ⟨v8, M8, hc8, h⟩ := o_b2 h
  refine ev_cl0 (ins := .invokevirtual 418) kc_301 rfl rfl (a := 294) (as := [.ref 215, .int p1]) (rest := []) rfl rfl (Cs.deep (c_X12_cannotFeel hc8) (by decide)) ?_
  rcases o_bif h with ⟨hb9, h⟩ | ⟨hb9, h⟩
  · refine ev_goF kc_301 1 (t := 6) (e := 4) (L' := [some (.ref 215), some (.int p1), none, none, none, none]) (st' := []) rfl (mB_e0f hb9) ?_
    refine ev_go kc_301 1 (i' := 5) (L' := [some (.ref 215), some (.int p1), none, none, none, none]) (st' := [.int (0 : Int32)]) (M' := M8) rfl ?_
    obtain rfl := Option.some.inj h
    rw [hk]
    exact ev_ret kc_301 rfl rfl rfl
  · refine ev_goT kc_301 1 (t := 6) (e := 4) (L' := [some (.ref 215), some (.int p1), none, none, none, none]) (st' := []) rfl (mB_e0t hb9) ?_
    refine ev_go kc_301 1 (i' := 7) (L' := [some (.ref 215), some (.int p1), none, none, none, none]) (st' := [.ref 215]) (M' := M8) rfl ?_
    obtain ⟨v10, M10, hc10, h⟩ := o_b2 h
    refine ev_cl0 (ins := .invokevirtual 421) kc_301 rfl rfl (a := 291) (as := [.ref 215]) (rest := []) rfl rfl (Cs.deep (c_X12_laysSleepers hc10) (by decide)) ?_
    refine ev_go kc_301 3 (i' := 11) (L' := [some (.ref 215), some (.int p1), none, none, none, none]) (st' := [.int (-1 : Int32), .int p1, .ref 215]) (M' := M10) rfl ?_
    obtain ⟨v11, hc11, h⟩ := o_b1 h
    refine ev_cl0 (ins := .invokevirtual 424) kc_301 rfl rfl (a := 295) (as := [.ref 215, .int p1, .int (-1 : Int32)]) (rest := []) rfl rfl (Cs.deep (c_X12_feelTo (M0 := M10) hc11) (by decide)) ?_
    rcases o_bif h with ⟨hb12, h⟩ | ⟨hb12, h⟩
    · refine ev_goT kc_301 2 (t := 16) (e := 14) (L' := [some (.ref 215), some (.int p1), none, none, none, none]) (st' := []) rfl hb12 ?_
      refine ev_go kc_301 6 (i' := 22) (L' := [some (.ref 215), some (.int p1), some (.int (-1 : Int32)), some (.int (1000000 : Int32)), some (.int (0 : Int32)), none]) (st' := []) (M' := M10) rfl ?_
      exact Ev.forget (mLe.kp (mLe.kp (mLe.kp (mLe.kp (mLe.kp (mLe.sk mLe.nl)))))) (e_X12_ask_l22  h hk)
    · refine ev_goF kc_301 2 (t := 16) (e := 14) (L' := [some (.ref 215), some (.int p1), none, none, none, none]) (st' := []) rfl hb12 ?_
      refine ev_go kc_301 1 (i' := 15) (L' := [some (.ref 215), some (.int p1), none, none, none, none]) (st' := [.int (-1 : Int32)]) (M' := M10) rfl ?_
      obtain rfl := Option.some.inj h
      rw [hk]
      exact ev_ret kc_301 rfl rfl rfl
/-- WakeTowerModel.touches(II)Z: 302, R -/
theorem kc_302 : mKc 302 = k_X12_touches := rfl
def f_X12_touches (p1 : Int32) (p2 : Int32) (M0 : mM) : Option Bool :=
  b1 (f_X12_of p1 (6 : Int32) M0) (fun v1 => bif (f_X12_has v1 p2) then (some true) else (b1 (f_X12_of p2 (6 : Int32) M0) (fun v4 => bif (f_X12_has v4 p1) then (some true) else (some false))))
set_option maxRecDepth 8000 in
theorem c_X12_touches {p1 : Int32} {p2 : Int32} {M0 : mM} {out : Bool} (h : f_X12_touches p1 p2 M0 = some out) : Cs (2) 302 [.ref 215, .int p1, .int p2] M0 (emR eB M0 out) := by
  generalize hk : emR eB M0 out = R
  replace hk := hk.symm
  unfold f_X12_touches at h
  show Ev (2) 302 0 [some (.ref 215), some (.int p1), some (.int p2)] [] M0 R
  refine ev_go kc_302 3 (i' := 3) (L' := [some (.ref 215), some (.int p1), some (.int p2)]) (st' := [.int (6 : Int32), .int p1, .ref 215]) (M' := M0) rfl ?_
  obtain ⟨v1, hc1, h⟩ := o_b1 h
  refine ev_cl0 (ins := .invokevirtual 79) kc_302 rfl rfl (a := 193) (as := [.ref 215, .int p1, .int (6 : Int32)]) (rest := []) rfl rfl (Cs.deep (c_X12_of (M0 := M0) hc1) (by decide)) ?_
  refine ev_go kc_302 1 (i' := 5) (L' := [some (.ref 215), some (.int p1), some (.int p2)]) (st' := [.int p2, .int v1]) (M' := M0) rfl ?_
  refine ev_cl0 (ins := .invokestatic 106) kc_302 rfl rfl (a := 183) (as := [.int v1, .int p2]) (rest := []) rfl rfl (Cs.deep (c_X12_has (M0 := M0)) (by decide)) ?_
  rcases o_bif h with ⟨hb3, h⟩ | ⟨hb3, h⟩
  · refine ev_goT kc_302 1 (t := 14) (e := 7) (L' := [some (.ref 215), some (.int p1), some (.int p2)]) (st' := []) rfl (mB_n0t hb3) ?_
    refine ev_go kc_302 2 (i' := 17) (L' := [some (.ref 215), some (.int p1), some (.int p2)]) (st' := [.int (1 : Int32)]) (M' := M0) rfl ?_
    obtain rfl := Option.some.inj h
    rw [hk]
    exact ev_ret kc_302 rfl rfl rfl
  · refine ev_goF kc_302 1 (t := 14) (e := 7) (L' := [some (.ref 215), some (.int p1), some (.int p2)]) (st' := []) rfl (mB_n0f hb3) ?_
    refine ev_go kc_302 3 (i' := 10) (L' := [some (.ref 215), some (.int p1), some (.int p2)]) (st' := [.int (6 : Int32), .int p2, .ref 215]) (M' := M0) rfl ?_
    obtain ⟨v4, hc4, h⟩ := o_b1 h
    refine ev_cl0 (ins := .invokevirtual 79) kc_302 rfl rfl (a := 193) (as := [.ref 215, .int p2, .int (6 : Int32)]) (rest := []) rfl rfl (Cs.deep (c_X12_of (M0 := M0) hc4) (by decide)) ?_
    refine ev_go kc_302 1 (i' := 12) (L' := [some (.ref 215), some (.int p1), some (.int p2)]) (st' := [.int p1, .int v4]) (M' := M0) rfl ?_
    refine ev_cl0 (ins := .invokestatic 106) kc_302 rfl rfl (a := 183) (as := [.int v4, .int p1]) (rest := []) rfl rfl (Cs.deep (c_X12_has (M0 := M0)) (by decide)) ?_
    rcases o_bif h with ⟨hb6, h⟩ | ⟨hb6, h⟩
    · refine ev_goF kc_302 1 (t := 16) (e := 14) (L' := [some (.ref 215), some (.int p1), some (.int p2)]) (st' := []) rfl (mB_e0f hb6) ?_
      refine ev_go kc_302 2 (i' := 17) (L' := [some (.ref 215), some (.int p1), some (.int p2)]) (st' := [.int (1 : Int32)]) (M' := M0) rfl ?_
      obtain rfl := Option.some.inj h
      rw [hk]
      exact ev_ret kc_302 rfl rfl rfl
    · refine ev_goT kc_302 1 (t := 16) (e := 14) (L' := [some (.ref 215), some (.int p1), some (.int p2)]) (st' := []) rfl (mB_e0t hb6) ?_
      refine ev_go kc_302 1 (i' := 17) (L' := [some (.ref 215), some (.int p1), some (.int p2)]) (st' := [.int (0 : Int32)]) (M' := M0) rfl ?_
      obtain rfl := Option.some.inj h
      rw [hk]
      exact ev_ret kc_302 rfl rfl rfl
/-- WakeTowerModel.touchedBy(II)I: 303, R -/
theorem kc_303 : mKc 303 = k_X12_touchedBy := rfl
def f_X12_touchedBy_10 (l1 : Int32) (l2 : Int32) (l3 : Int32) (l4 : Int32) (l5 : Int32) (M0 : mM) : Option ((Int32 ⊕ (Int32 × Int32)) ⊕ (Int32 × Int32)) :=
  b1 (f_X12_people M0) (fun v1 => bif decide (v1 ≤ l5) then (some (.inl (.inr (l3, (l4 + (1 : Int32)))))) else (bif (f_X12_has l1 l4) then (bif (f_X12_has l2 l5) then (b1 (f_X12_touches l4 l5 M0) (fun v7 => bif v7 then (some (.inr ((l3 ||| ((1 : Int32) <<< (l5 &&& (31 : Int32)))), (l5 + (1 : Int32))))) else (some (.inr ((l3 ||| (0 : Int32)), (l5 + (1 : Int32))))))) else (some (.inr ((l3 ||| (0 : Int32)), (l5 + (1 : Int32)))))) else (some (.inr ((l3 ||| (0 : Int32)), (l5 + (1 : Int32)))))))
set_option maxRecDepth 8000 in
theorem e_X12_touchedBy_10 {l1 : Int32} {l2 : Int32} {l3 : Int32} {l4 : Int32} {l5 : Int32} {M0 : mM} {R : mZ} {out : ((Int32 ⊕ (Int32 × Int32)) ⊕ (Int32 × Int32))}  (h : f_X12_touchedBy_10 l1 l2 l3 l4 l5 M0 = some out) (hk : (∀ s' : Int32 × Int32, out = .inr s' → Ev (3) 303 10 [some (.ref 215), some (.int l1), some (.int l2), some (.int s'.1), some (.int l4), some (.int s'.2)] [] M0 R) ∧ (∀ e2 : (Int32 ⊕ (Int32 × Int32)), out = .inl e2 → (∀ s' : Int32 × Int32, e2 = .inr s' → Ev (3) 303 4 [some (.ref 215), some (.int l1), some (.int l2), some (.int s'.1), some (.int s'.2), none] [] M0 R) ∧ (∀ e1 : Int32, e2 = .inl e1 → R = emR eI M0 e1))) : Ev (3) 303 10 [some (.ref 215), some (.int l1), some (.int l2), some (.int l3), some (.int l4), some (.int l5)] [] M0 R := by
  unfold f_X12_touchedBy_10 at h
  refine ev_go kc_303 2 (i' := 12) (L' := [some (.ref 215), some (.int l1), some (.int l2), some (.int l3), some (.int l4), some (.int l5)]) (st' := [.ref 215, .int l5]) (M' := M0) rfl ?_
  obtain ⟨v1, hc1, h⟩ := o_b1 h
  refine ev_cl0 (ins := .invokevirtual 71) kc_303 rfl rfl (a := 190) (as := [.ref 215]) (rest := [.int l5]) rfl rfl (Cs.deep (c_X12_people (M0 := M0) hc1) (by decide)) ?_
  rcases o_bif h with ⟨hb2, h⟩ | ⟨hb2, h⟩
  · refine ev_goT kc_303 1 (t := 37) (e := 14) (L' := [some (.ref 215), some (.int l1), some (.int l2), some (.int l3), some (.int l4), some (.int l5)]) (st' := []) rfl hb2 ?_
    refine ev_go kc_303 2 (i' := 4) (L' := [some (.ref 215), some (.int l1), some (.int l2), some (.int l3), some (.int (l4 + (1 : Int32))), some (.int l5)]) (st' := []) (M' := M0) rfl ?_
    obtain rfl := Option.some.inj h
    exact Ev.forget (mLe.kp (mLe.kp (mLe.kp (mLe.kp (mLe.kp (mLe.sk mLe.nl)))))) ((hk.2 _ rfl).1 (l3, (l4 + (1 : Int32))) rfl)
  · refine ev_goF kc_303 1 (t := 37) (e := 14) (L' := [some (.ref 215), some (.int l1), some (.int l2), some (.int l3), some (.int l4), some (.int l5)]) (st' := []) rfl hb2 ?_
    refine ev_go kc_303 3 (i' := 17) (L' := [some (.ref 215), some (.int l1), some (.int l2), some (.int l3), some (.int l4), some (.int l5)]) (st' := [.int l4, .int l1, .int l3]) (M' := M0) rfl ?_
    refine ev_cl0 (ins := .invokestatic 106) kc_303 rfl rfl (a := 183) (as := [.int l1, .int l4]) (rest := [.int l3]) rfl rfl (Cs.deep (c_X12_has (M0 := M0)) (by decide)) ?_
    rcases o_bif h with ⟨hb4, h⟩ | ⟨hb4, h⟩
    · refine ev_goF kc_303 1 (t := 32) (e := 19) (L' := [some (.ref 215), some (.int l1), some (.int l2), some (.int l3), some (.int l4), some (.int l5)]) (st' := [.int l3]) rfl (mB_e0f hb4) ?_
      refine ev_go kc_303 2 (i' := 21) (L' := [some (.ref 215), some (.int l1), some (.int l2), some (.int l3), some (.int l4), some (.int l5)]) (st' := [.int l5, .int l2, .int l3]) (M' := M0) rfl ?_
      refine ev_cl0 (ins := .invokestatic 106) kc_303 rfl rfl (a := 183) (as := [.int l2, .int l5]) (rest := [.int l3]) rfl rfl (Cs.deep (c_X12_has (M0 := M0)) (by decide)) ?_
      rcases o_bif h with ⟨hb6, h⟩ | ⟨hb6, h⟩
      · refine ev_goF kc_303 1 (t := 32) (e := 23) (L' := [some (.ref 215), some (.int l1), some (.int l2), some (.int l3), some (.int l4), some (.int l5)]) (st' := [.int l3]) rfl (mB_e0f hb6) ?_
        refine ev_go kc_303 3 (i' := 26) (L' := [some (.ref 215), some (.int l1), some (.int l2), some (.int l3), some (.int l4), some (.int l5)]) (st' := [.int l5, .int l4, .ref 215, .int l3]) (M' := M0) rfl ?_
        obtain ⟨v7, hc7, h⟩ := o_b1 h
        refine ev_cl0 (ins := .invokevirtual 430) kc_303 rfl rfl (a := 302) (as := [.ref 215, .int l4, .int l5]) (rest := [.int l3]) rfl rfl (Cs.deep (c_X12_touches (M0 := M0) hc7) (by decide)) ?_
        rcases o_bif h with ⟨hb8, h⟩ | ⟨hb8, h⟩
        · refine ev_goF kc_303 1 (t := 32) (e := 28) (L' := [some (.ref 215), some (.int l1), some (.int l2), some (.int l3), some (.int l4), some (.int l5)]) (st' := [.int l3]) rfl (mB_e0f hb8) ?_
          refine ev_go kc_303 8 (i' := 10) (L' := [some (.ref 215), some (.int l1), some (.int l2), some (.int (l3 ||| ((1 : Int32) <<< (l5 &&& (31 : Int32))))), some (.int l4), some (.int (l5 + (1 : Int32)))]) (st' := []) (M' := M0) rfl ?_
          obtain rfl := Option.some.inj h
          exact Ev.forget (mLe.kp (mLe.kp (mLe.kp (mLe.kp (mLe.kp (mLe.kp mLe.nl)))))) (hk.1 ((l3 ||| ((1 : Int32) <<< (l5 &&& (31 : Int32)))), (l5 + (1 : Int32))) rfl)
        · refine ev_goT kc_303 1 (t := 32) (e := 28) (L' := [some (.ref 215), some (.int l1), some (.int l2), some (.int l3), some (.int l4), some (.int l5)]) (st' := [.int l3]) rfl (mB_e0t hb8) ?_
          refine ev_go kc_303 5 (i' := 10) (L' := [some (.ref 215), some (.int l1), some (.int l2), some (.int (l3 ||| (0 : Int32))), some (.int l4), some (.int (l5 + (1 : Int32)))]) (st' := []) (M' := M0) rfl ?_
          obtain rfl := Option.some.inj h
          exact Ev.forget (mLe.kp (mLe.kp (mLe.kp (mLe.kp (mLe.kp (mLe.kp mLe.nl)))))) (hk.1 ((l3 ||| (0 : Int32)), (l5 + (1 : Int32))) rfl)
      · refine ev_goT kc_303 1 (t := 32) (e := 23) (L' := [some (.ref 215), some (.int l1), some (.int l2), some (.int l3), some (.int l4), some (.int l5)]) (st' := [.int l3]) rfl (mB_e0t hb6) ?_
        refine ev_go kc_303 5 (i' := 10) (L' := [some (.ref 215), some (.int l1), some (.int l2), some (.int (l3 ||| (0 : Int32))), some (.int l4), some (.int (l5 + (1 : Int32)))]) (st' := []) (M' := M0) rfl ?_
        obtain rfl := Option.some.inj h
        exact Ev.forget (mLe.kp (mLe.kp (mLe.kp (mLe.kp (mLe.kp (mLe.kp mLe.nl)))))) (hk.1 ((l3 ||| (0 : Int32)), (l5 + (1 : Int32))) rfl)
    · refine ev_goT kc_303 1 (t := 32) (e := 19) (L' := [some (.ref 215), some (.int l1), some (.int l2), some (.int l3), some (.int l4), some (.int l5)]) (st' := [.int l3]) rfl (mB_e0t hb4) ?_
      refine ev_go kc_303 5 (i' := 10) (L' := [some (.ref 215), some (.int l1), some (.int l2), some (.int (l3 ||| (0 : Int32))), some (.int l4), some (.int (l5 + (1 : Int32)))]) (st' := []) (M' := M0) rfl ?_
      obtain rfl := Option.some.inj h
      exact Ev.forget (mLe.kp (mLe.kp (mLe.kp (mLe.kp (mLe.kp (mLe.kp mLe.nl)))))) (hk.1 ((l3 ||| (0 : Int32)), (l5 + (1 : Int32))) rfl)
def f_X12_touchedBy_l10 (l1 : Int32) (l2 : Int32) (l4 : Int32) (l3 : Int32) (l5 : Int32) (M0 : mM) : Option (Int32 ⊕ (Int32 × Int32)) :=
  wh 100000 (fun s : Int32 × Int32 => f_X12_touchedBy_10 l1 l2 s.1 l4 s.2 M0) (l3, l5)
theorem e_X12_touchedBy_l10 {l1 : Int32} {l2 : Int32} {l3 : Int32} {l4 : Int32} {l5 : Int32} {M0 : mM} {R : mZ} {out : (Int32 ⊕ (Int32 × Int32))}  (h : f_X12_touchedBy_l10 l1 l2 l4 l3 l5 M0 = some out) (hk : (∀ s' : Int32 × Int32, out = .inr s' → Ev (3) 303 4 [some (.ref 215), some (.int l1), some (.int l2), some (.int s'.1), some (.int s'.2), none] [] M0 R) ∧ (∀ e1 : Int32, out = .inl e1 → R = emR eI M0 e1)) : Ev (3) 303 10 [some (.ref 215), some (.int l1), some (.int l2), some (.int l3), some (.int l4), some (.int l5)] [] M0 R := by
  unfold f_X12_touchedBy_l10 at h
  exact wh_ev (P := fun s : Int32 × Int32 => Ev (3) 303 10 [some (.ref 215), some (.int l1), some (.int l2), some (.int s.1), some (.int l4), some (.int s.2)] [] M0 R) (Q := fun e : (Int32 ⊕ (Int32 × Int32)) => (∀ s' : Int32 × Int32, e = .inr s' → Ev (3) 303 4 [some (.ref 215), some (.int l1), some (.int l2), some (.int s'.1), some (.int s'.2), none] [] M0 R) ∧ (∀ e1 : Int32, e = .inl e1 → R = emR eI M0 e1)) (fun s o hb h1 h2 => e_X12_touchedBy_10  hb ⟨h1, h2⟩) 100000 _ _ h hk
def f_X12_touchedBy_4 (l1 : Int32) (l2 : Int32) (l3 : Int32) (l4 : Int32) (M0 : mM) : Option (Int32 ⊕ (Int32 × Int32)) :=
  b1 (f_X12_people M0) (fun v9 => bif decide (v9 ≤ l4) then (some (.inl l3)) else (f_X12_touchedBy_l10 l1 l2 l4 l3 (0 : Int32) M0))
set_option maxRecDepth 8000 in
theorem e_X12_touchedBy_4 {l1 : Int32} {l2 : Int32} {l3 : Int32} {l4 : Int32} {M0 : mM} {R : mZ} {out : (Int32 ⊕ (Int32 × Int32))}  (h : f_X12_touchedBy_4 l1 l2 l3 l4 M0 = some out) (hk : (∀ s' : Int32 × Int32, out = .inr s' → Ev (3) 303 4 [some (.ref 215), some (.int l1), some (.int l2), some (.int s'.1), some (.int s'.2), none] [] M0 R) ∧ (∀ e1 : Int32, out = .inl e1 → R = emR eI M0 e1)) : Ev (3) 303 4 [some (.ref 215), some (.int l1), some (.int l2), some (.int l3), some (.int l4), none] [] M0 R := by
  unfold f_X12_touchedBy_4 at h
  refine ev_go kc_303 2 (i' := 6) (L' := [some (.ref 215), some (.int l1), some (.int l2), some (.int l3), some (.int l4), none]) (st' := [.ref 215, .int l4]) (M' := M0) rfl ?_
  obtain ⟨v9, hc9, h⟩ := o_b1 h
  refine ev_cl0 (ins := .invokevirtual 71) kc_303 rfl rfl (a := 190) (as := [.ref 215]) (rest := [.int l4]) rfl rfl (Cs.deep (c_X12_people (M0 := M0) hc9) (by decide)) ?_
  rcases o_bif h with ⟨hb10, h⟩ | ⟨hb10, h⟩
  · refine ev_goT kc_303 1 (t := 39) (e := 8) (L' := [some (.ref 215), some (.int l1), some (.int l2), some (.int l3), some (.int l4), none]) (st' := []) rfl hb10 ?_
    refine ev_go kc_303 1 (i' := 40) (L' := [some (.ref 215), some (.int l1), some (.int l2), some (.int l3), some (.int l4), none]) (st' := [.int l3]) (M' := M0) rfl ?_
    obtain rfl := Option.some.inj h
    rw [show _ from (hk.2 _ rfl)]
    exact ev_ret kc_303 rfl rfl rfl
  · refine ev_goF kc_303 1 (t := 39) (e := 8) (L' := [some (.ref 215), some (.int l1), some (.int l2), some (.int l3), some (.int l4), none]) (st' := []) rfl hb10 ?_
    refine ev_go kc_303 2 (i' := 10) (L' := [some (.ref 215), some (.int l1), some (.int l2), some (.int l3), some (.int l4), some (.int (0 : Int32))]) (st' := []) (M' := M0) rfl ?_
    exact Ev.forget (mLe.kp (mLe.kp (mLe.kp (mLe.kp (mLe.kp (mLe.kp mLe.nl)))))) (e_X12_touchedBy_l10  h hk)
def f_X12_touchedBy_l4 (l1 : Int32) (l2 : Int32) (l3 : Int32) (l4 : Int32) (M0 : mM) : Option Int32 :=
  wh 100000 (fun s : Int32 × Int32 => f_X12_touchedBy_4 l1 l2 s.1 s.2 M0) (l3, l4)
theorem e_X12_touchedBy_l4 {l1 : Int32} {l2 : Int32} {l3 : Int32} {l4 : Int32} {M0 : mM} {R : mZ} {out : Int32}  (h : f_X12_touchedBy_l4 l1 l2 l3 l4 M0 = some out) (hk : R = emR eI M0 out) : Ev (3) 303 4 [some (.ref 215), some (.int l1), some (.int l2), some (.int l3), some (.int l4), none] [] M0 R := by
  unfold f_X12_touchedBy_l4 at h
  exact wh_ev (P := fun s : Int32 × Int32 => Ev (3) 303 4 [some (.ref 215), some (.int l1), some (.int l2), some (.int s.1), some (.int s.2), none] [] M0 R) (Q := fun e : Int32 => R = emR eI M0 e) (fun s o hb h1 h2 => e_X12_touchedBy_4  hb ⟨h1, h2⟩) 100000 _ _ h hk
def f_X12_touchedBy (p1 : Int32) (p2 : Int32) (M0 : mM) : Option Int32 :=
  f_X12_touchedBy_l4 p1 p2 p1 (0 : Int32) M0
set_option maxRecDepth 8000 in
theorem c_X12_touchedBy {p1 : Int32} {p2 : Int32} {M0 : mM} {out : Int32} (h : f_X12_touchedBy p1 p2 M0 = some out) : Cs (3) 303 [.ref 215, .int p1, .int p2] M0 (emR eI M0 out) := by
  generalize hk : emR eI M0 out = R
  replace hk := hk.symm
  unfold f_X12_touchedBy at h
  show Ev (3) 303 0 [some (.ref 215), some (.int p1), some (.int p2), none, none, none] [] M0 R
  refine ev_go kc_303 4 (i' := 4) (L' := [some (.ref 215), some (.int p1), some (.int p2), some (.int p1), some (.int (0 : Int32)), none]) (st' := []) (M' := M0) rfl ?_
  exact Ev.forget (mLe.kp (mLe.kp (mLe.kp (mLe.kp (mLe.kp (mLe.sk mLe.nl)))))) (e_X12_touchedBy_l4  h hk)
/-- WakeTowerModel.reachedFrom(II)I: 304, R -/
theorem kc_304 : mKc 304 = k_X12_reachedFrom := rfl
def f_X12_reachedFrom_8 (l2 : Int32) (l3 : Int32) (l4 : Int32) (M0 : mM) : Option (Int32 ⊕ (Int32 × Int32)) :=
  bif decide ((8 : Int32) ≤ l4) then (some (.inl l3)) else (b1 (f_X12_touchedBy l3 l2 M0) (fun v2 => some (.inr (v2, (l4 + (1 : Int32))))))
set_option maxRecDepth 8000 in
theorem e_X12_reachedFrom_8 {l2 : Int32} {l3 : Int32} {l4 : Int32} {M0 : mM} {R : mZ} {out : (Int32 ⊕ (Int32 × Int32))}  (h : f_X12_reachedFrom_8 l2 l3 l4 M0 = some out) (hk : (∀ s' : Int32 × Int32, out = .inr s' → Ev (4) 304 8 [some (.ref 215), none, some (.int l2), some (.int s'.1), some (.int s'.2)] [] M0 R) ∧ (∀ e1 : Int32, out = .inl e1 → R = emR eI M0 e1)) : Ev (4) 304 8 [some (.ref 215), none, some (.int l2), some (.int l3), some (.int l4)] [] M0 R := by
  unfold f_X12_reachedFrom_8 at h
  rcases o_bif h with ⟨hb1, h⟩ | ⟨hb1, h⟩
  · refine ev_goT kc_304 3 (t := 18) (e := 11) (L' := [some (.ref 215), none, some (.int l2), some (.int l3), some (.int l4)]) (st' := []) rfl hb1 ?_
    refine ev_go kc_304 1 (i' := 19) (L' := [some (.ref 215), none, some (.int l2), some (.int l3), some (.int l4)]) (st' := [.int l3]) (M' := M0) rfl ?_
    obtain rfl := Option.some.inj h
    rw [show _ from (hk.2 _ rfl)]
    exact ev_ret kc_304 rfl rfl rfl
  · refine ev_goF kc_304 3 (t := 18) (e := 11) (L' := [some (.ref 215), none, some (.int l2), some (.int l3), some (.int l4)]) (st' := []) rfl hb1 ?_
    refine ev_go kc_304 3 (i' := 14) (L' := [some (.ref 215), none, some (.int l2), some (.int l3), some (.int l4)]) (st' := [.int l2, .int l3, .ref 215]) (M' := M0) rfl ?_
    obtain ⟨v2, hc2, h⟩ := o_b1 h
    refine ev_cl0 (ins := .invokevirtual 433) kc_304 rfl rfl (a := 303) (as := [.ref 215, .int l3, .int l2]) (rest := []) rfl rfl (Cs.deep (c_X12_touchedBy (M0 := M0) hc2) (by decide)) ?_
    refine ev_go kc_304 3 (i' := 8) (L' := [some (.ref 215), none, some (.int l2), some (.int v2), some (.int (l4 + (1 : Int32)))]) (st' := []) (M' := M0) rfl ?_
    obtain rfl := Option.some.inj h
    exact Ev.forget (mLe.kp (mLe.sk (mLe.kp (mLe.kp (mLe.kp mLe.nl))))) (hk.1 (v2, (l4 + (1 : Int32))) rfl)
def f_X12_reachedFrom_l8 (l2 : Int32) (l3 : Int32) (l4 : Int32) (M0 : mM) : Option Int32 :=
  wh 100000 (fun s : Int32 × Int32 => f_X12_reachedFrom_8 l2 s.1 s.2 M0) (l3, l4)
theorem e_X12_reachedFrom_l8 {l2 : Int32} {l3 : Int32} {l4 : Int32} {M0 : mM} {R : mZ} {out : Int32}  (h : f_X12_reachedFrom_l8 l2 l3 l4 M0 = some out) (hk : R = emR eI M0 out) : Ev (4) 304 8 [some (.ref 215), none, some (.int l2), some (.int l3), some (.int l4)] [] M0 R := by
  unfold f_X12_reachedFrom_l8 at h
  exact wh_ev (P := fun s : Int32 × Int32 => Ev (4) 304 8 [some (.ref 215), none, some (.int l2), some (.int s.1), some (.int s.2)] [] M0 R) (Q := fun e : Int32 => R = emR eI M0 e) (fun s o hb h1 h2 => e_X12_reachedFrom_8  hb ⟨h1, h2⟩) 100000 _ _ h hk
def f_X12_reachedFrom (p1 : Int32) (p2 : Int32) (M0 : mM) : Option Int32 :=
  f_X12_reachedFrom_l8 p2 (((1 : Int32) <<< (p1 &&& (31 : Int32))) &&& p2) (0 : Int32) M0
set_option maxRecDepth 8000 in
theorem c_X12_reachedFrom {p1 : Int32} {p2 : Int32} {M0 : mM} {out : Int32} (h : f_X12_reachedFrom p1 p2 M0 = some out) : Cs (4) 304 [.ref 215, .int p1, .int p2] M0 (emR eI M0 out) := by
  generalize hk : emR eI M0 out = R
  replace hk := hk.symm
  unfold f_X12_reachedFrom at h
  show Ev (4) 304 0 [some (.ref 215), some (.int p1), some (.int p2), none, none] [] M0 R
  refine ev_go kc_304 8 (i' := 8) (L' := [some (.ref 215), some (.int p1), some (.int p2), some (.int (((1 : Int32) <<< (p1 &&& (31 : Int32))) &&& p2)), some (.int (0 : Int32))]) (st' := []) (M' := M0) rfl ?_
  exact Ev.forget (mLe.kp (mLe.sk (mLe.kp (mLe.kp (mLe.kp mLe.nl))))) (e_X12_reachedFrom_l8  h hk)
/-- WakeTowerModel.pushes(II)I: 305, W -/
theorem kc_305 : mKc 305 = k_X12_pushes := rfl
def f_X12_pushes_29 (l2 : Int32) (l3 : Int32) (l4 : Int32) (M0 : mM) : Option ((Int32 × mM) ⊕ (Int32 × Int32)) :=
  bif decide ((8 : Int32) ≤ l4) then (some (.inl ((-1 : Int32), M0))) else (bif (f_X12_has l3 l2) then (some (.inl (l4, M0))) else (b1 (f_X12_holders M0) (fun v4 => b1 (f_X12_touchedBy l3 v4 M0) (fun v5 => some (.inr (v5, (l4 + (1 : Int32))))))))
set_option maxRecDepth 8000 in
theorem e_X12_pushes_29 {l2 : Int32} {l3 : Int32} {l4 : Int32} {M0 : mM} {R : mZ} {out : ((Int32 × mM) ⊕ (Int32 × Int32))}  (h : f_X12_pushes_29 l2 l3 l4 M0 = some out) (hk : (∀ s' : Int32 × Int32, out = .inr s' → Ev (5) 305 29 [some (.ref 215), none, some (.int l2), some (.int s'.1), some (.int s'.2)] [] M0 R) ∧ (∀ e1 : (Int32 × mM), out = .inl e1 → R = emW eI e1)) : Ev (5) 305 29 [some (.ref 215), none, some (.int l2), some (.int l3), some (.int l4)] [] M0 R := by
  unfold f_X12_pushes_29 at h
  rcases o_bif h with ⟨hb1, h⟩ | ⟨hb1, h⟩
  · refine ev_goT kc_305 3 (t := 46) (e := 32) (L' := [some (.ref 215), none, some (.int l2), some (.int l3), some (.int l4)]) (st' := []) rfl hb1 ?_
    refine ev_go kc_305 1 (i' := 47) (L' := [some (.ref 215), none, some (.int l2), some (.int l3), some (.int l4)]) (st' := [.int (-1 : Int32)]) (M' := M0) rfl ?_
    obtain rfl := Option.some.inj h
    rw [show _ from (hk.2 _ rfl)]
    exact ev_ret kc_305 rfl rfl rfl
  · refine ev_goF kc_305 3 (t := 46) (e := 32) (L' := [some (.ref 215), none, some (.int l2), some (.int l3), some (.int l4)]) (st' := []) rfl hb1 ?_
    refine ev_go kc_305 2 (i' := 34) (L' := [some (.ref 215), none, some (.int l2), some (.int l3), some (.int l4)]) (st' := [.int l2, .int l3]) (M' := M0) rfl ?_
    refine ev_cl0 (ins := .invokestatic 106) kc_305 rfl rfl (a := 183) (as := [.int l3, .int l2]) (rest := []) rfl rfl (Cs.deep (c_X12_has (M0 := M0)) (by decide)) ?_
    rcases o_bif h with ⟨hb3, h⟩ | ⟨hb3, h⟩
    · refine ev_goF kc_305 1 (t := 38) (e := 36) (L' := [some (.ref 215), none, some (.int l2), some (.int l3), some (.int l4)]) (st' := []) rfl (mB_e0f hb3) ?_
      refine ev_go kc_305 1 (i' := 37) (L' := [some (.ref 215), none, some (.int l2), some (.int l3), some (.int l4)]) (st' := [.int l4]) (M' := M0) rfl ?_
      obtain rfl := Option.some.inj h
      rw [show _ from (hk.2 _ rfl)]
      exact ev_ret kc_305 rfl rfl rfl
    · refine ev_goT kc_305 1 (t := 38) (e := 36) (L' := [some (.ref 215), none, some (.int l2), some (.int l3), some (.int l4)]) (st' := []) rfl (mB_e0t hb3) ?_
      refine ev_go kc_305 3 (i' := 41) (L' := [some (.ref 215), none, some (.int l2), some (.int l3), some (.int l4)]) (st' := [.ref 215, .int l3, .ref 215]) (M' := M0) rfl ?_
      obtain ⟨v4, hc4, h⟩ := o_b1 h
      refine ev_cl0 (ins := .invokevirtual 97) kc_305 rfl rfl (a := 198) (as := [.ref 215]) (rest := [.int l3, .ref 215]) rfl rfl (Cs.deep (c_X12_holders (M0 := M0) hc4) (by decide)) ?_
      obtain ⟨v5, hc5, h⟩ := o_b1 h
      refine ev_cl0 (ins := .invokevirtual 433) kc_305 rfl rfl (a := 303) (as := [.ref 215, .int l3, .int v4]) (rest := []) rfl rfl (Cs.deep (c_X12_touchedBy (M0 := M0) hc5) (by decide)) ?_
      refine ev_go kc_305 3 (i' := 29) (L' := [some (.ref 215), none, some (.int l2), some (.int v5), some (.int (l4 + (1 : Int32)))]) (st' := []) (M' := M0) rfl ?_
      obtain rfl := Option.some.inj h
      exact Ev.forget (mLe.kp (mLe.sk (mLe.kp (mLe.kp (mLe.kp mLe.nl))))) (hk.1 (v5, (l4 + (1 : Int32))) rfl)
def f_X12_pushes_l29 (l2 : Int32) (l3 : Int32) (l4 : Int32) (M0 : mM) : Option (Int32 × mM) :=
  wh 100000 (fun s : Int32 × Int32 => f_X12_pushes_29 l2 s.1 s.2 M0) (l3, l4)
theorem e_X12_pushes_l29 {l2 : Int32} {l3 : Int32} {l4 : Int32} {M0 : mM} {R : mZ} {out : (Int32 × mM)}  (h : f_X12_pushes_l29 l2 l3 l4 M0 = some out) (hk : R = emW eI out) : Ev (5) 305 29 [some (.ref 215), none, some (.int l2), some (.int l3), some (.int l4)] [] M0 R := by
  unfold f_X12_pushes_l29 at h
  exact wh_ev (P := fun s : Int32 × Int32 => Ev (5) 305 29 [some (.ref 215), none, some (.int l2), some (.int s.1), some (.int s.2)] [] M0 R) (Q := fun e : (Int32 × mM) => R = emW eI e) (fun s o hb h1 h2 => e_X12_pushes_29  hb ⟨h1, h2⟩) 100000 _ _ h hk
def f_X12_pushes_15 (l1 : Int32) (l2 : Int32) (s1 : Bool) (M0 : mM) : Option (Int32 × mM) :=
  b2 (f_X12_throwsIf s1 (1 : Int32) M0) (fun v6 M6 => bif v6 then (some ((0 : Int32), M6)) else (b1 (f_X12_holders M6) (fun v8 => f_X12_pushes_l29 l2 (((1 : Int32) <<< (l1 &&& (31 : Int32))) &&& v8) (0 : Int32) M6)))
set_option maxRecDepth 8000 in
theorem e_X12_pushes_15 {l1 : Int32} {l2 : Int32} {s1 : Bool} {M0 : mM} {R : mZ} {out : (Int32 × mM)}  (h : f_X12_pushes_15 l1 l2 s1 M0 = some out) (hk : R = emW eI out) : Ev (5) 305 15 [some (.ref 215), some (.int l1), some (.int l2), none, none] [.int (mB s1), .ref 215] M0 R := by
  unfold f_X12_pushes_15 at h
  refine ev_go kc_305 1 (i' := 16) (L' := [some (.ref 215), some (.int l1), some (.int l2), none, none]) (st' := [.int (1 : Int32), .int (mB s1), .ref 215]) (M' := M0) rfl ?_
  obtain ⟨v6, M6, hc6, h⟩ := o_b2 h
  refine ev_cl0 (ins := .invokevirtual 304) kc_305 rfl rfl (a := 181) (as := [.ref 215, .int (mB s1), .int (1 : Int32)]) (rest := []) rfl rfl (Cs.deep (c_X12_throwsIf hc6) (by decide)) ?_
  rcases o_bif h with ⟨hb7, h⟩ | ⟨hb7, h⟩
  · refine ev_goF kc_305 1 (t := 20) (e := 18) (L' := [some (.ref 215), some (.int l1), some (.int l2), none, none]) (st' := []) rfl (mB_e0f hb7) ?_
    refine ev_go kc_305 1 (i' := 19) (L' := [some (.ref 215), some (.int l1), some (.int l2), none, none]) (st' := [.int (0 : Int32)]) (M' := M6) rfl ?_
    obtain rfl := Option.some.inj h
    rw [hk]
    exact ev_ret kc_305 rfl rfl rfl
  · refine ev_goT kc_305 1 (t := 20) (e := 18) (L' := [some (.ref 215), some (.int l1), some (.int l2), none, none]) (st' := []) rfl (mB_e0t hb7) ?_
    refine ev_go kc_305 4 (i' := 24) (L' := [some (.ref 215), some (.int l1), some (.int l2), none, none]) (st' := [.ref 215, .int ((1 : Int32) <<< (l1 &&& (31 : Int32)))]) (M' := M6) rfl ?_
    obtain ⟨v8, hc8, h⟩ := o_b1 h
    refine ev_cl0 (ins := .invokevirtual 97) kc_305 rfl rfl (a := 198) (as := [.ref 215]) (rest := [.int ((1 : Int32) <<< (l1 &&& (31 : Int32)))]) rfl rfl (Cs.deep (c_X12_holders (M0 := M6) hc8) (by decide)) ?_
    refine ev_go kc_305 4 (i' := 29) (L' := [some (.ref 215), some (.int l1), some (.int l2), some (.int (((1 : Int32) <<< (l1 &&& (31 : Int32))) &&& v8)), some (.int (0 : Int32))]) (st' := []) (M' := M6) rfl ?_
    exact Ev.forget (mLe.kp (mLe.sk (mLe.kp (mLe.kp (mLe.kp mLe.nl))))) (e_X12_pushes_l29  h hk)
def f_X12_pushes_12 (l1 : Int32) (l2 : Int32) (M0 : mM) : Option (Int32 × mM) :=
  f_X12_pushes_15 l1 l2 true M0
set_option maxRecDepth 8000 in
theorem e_X12_pushes_12 {l1 : Int32} {l2 : Int32} {M0 : mM} {R : mZ} {out : (Int32 × mM)}  (h : f_X12_pushes_12 l1 l2 M0 = some out) (hk : R = emW eI out) : Ev (5) 305 12 [some (.ref 215), some (.int l1), some (.int l2), none, none] [.ref 215] M0 R := by
  unfold f_X12_pushes_12 at h
  refine ev_go kc_305 2 (i' := 15) (L' := [some (.ref 215), some (.int l1), some (.int l2), none, none]) (st' := [.int (1 : Int32), .ref 215]) (M' := M0) rfl ?_
  exact Ev.forget (mLe.kp (mLe.kp (mLe.kp (mLe.sk (mLe.sk mLe.nl))))) (e_X12_pushes_15  h hk)
def f_X12_pushes (p1 : Int32) (p2 : Int32) (M0 : mM) : Option (Int32 × mM) :=
  wr (mst M0 215 0 (0 : Int32)) (fun M9 => b1 (f_X12_nobody p1 M9) (fun v10 => bif v10 then (f_X12_pushes_12 p1 p2 M9) else (b1 (f_X12_nobody p2 M9) (fun v12 => bif v12 then (f_X12_pushes_12 p1 p2 M9) else (f_X12_pushes_15 p1 p2 false M9)))))
set_option maxRecDepth 8000 in
theorem c_X12_pushes {p1 : Int32} {p2 : Int32} {M0 : mM} {out : (Int32 × mM)} (h : f_X12_pushes p1 p2 M0 = some out) : Cs (5) 305 [.ref 215, .int p1, .int p2] M0 (emW eI out) := by
  generalize hk : emW eI out = R
  replace hk := hk.symm
  unfold f_X12_pushes at h
  show Ev (5) 305 0 [some (.ref 215), some (.int p1), some (.int p2), none, none] [] M0 R
  refine ev_go kc_305 2 (i' := 2) (L' := [some (.ref 215), some (.int p1), some (.int p2), none, none]) (st' := [.int (0 : Int32), .ref 215]) (M' := M0) rfl ?_
  obtain ⟨M9, hM9, h⟩ := o_wr h
  refine ev_pf kc_305 rfl rfl rfl rfl (fun hc => absurd hc (by decide)) hM9 ?_
  refine ev_go kc_305 3 (i' := 6) (L' := [some (.ref 215), some (.int p1), some (.int p2), none, none]) (st' := [.int p1, .ref 215, .ref 215]) (M' := M9) rfl ?_
  obtain ⟨v10, hc10, h⟩ := o_b1 h
  refine ev_cl0 (ins := .invokevirtual 329) kc_305 rfl rfl (a := 201) (as := [.ref 215, .int p1]) (rest := [.ref 215]) rfl rfl (Cs.deep (c_X12_nobody (M0 := M9) hc10) (by decide)) ?_
  rcases o_bif h with ⟨hb11, h⟩ | ⟨hb11, h⟩
  · refine ev_goT kc_305 1 (t := 12) (e := 8) (L' := [some (.ref 215), some (.int p1), some (.int p2), none, none]) (st' := [.ref 215]) rfl (mB_n0t hb11) ?_
    exact Ev.forget (mLe.kp (mLe.kp (mLe.kp (mLe.sk (mLe.sk mLe.nl))))) (e_X12_pushes_12  h hk)
  · refine ev_goF kc_305 1 (t := 12) (e := 8) (L' := [some (.ref 215), some (.int p1), some (.int p2), none, none]) (st' := [.ref 215]) rfl (mB_n0f hb11) ?_
    refine ev_go kc_305 2 (i' := 10) (L' := [some (.ref 215), some (.int p1), some (.int p2), none, none]) (st' := [.int p2, .ref 215, .ref 215]) (M' := M9) rfl ?_
    obtain ⟨v12, hc12, h⟩ := o_b1 h
    refine ev_cl0 (ins := .invokevirtual 329) kc_305 rfl rfl (a := 201) (as := [.ref 215, .int p2]) (rest := [.ref 215]) rfl rfl (Cs.deep (c_X12_nobody (M0 := M9) hc12) (by decide)) ?_
    rcases o_bif h with ⟨hb13, h⟩ | ⟨hb13, h⟩
    · refine ev_goF kc_305 1 (t := 14) (e := 12) (L' := [some (.ref 215), some (.int p1), some (.int p2), none, none]) (st' := [.ref 215]) rfl (mB_e0f hb13) ?_
      exact Ev.forget (mLe.kp (mLe.kp (mLe.kp (mLe.sk (mLe.sk mLe.nl))))) (e_X12_pushes_12  h hk)
    · refine ev_goT kc_305 1 (t := 14) (e := 12) (L' := [some (.ref 215), some (.int p1), some (.int p2), none, none]) (st' := [.ref 215]) rfl (mB_e0t hb13) ?_
      refine ev_go kc_305 1 (i' := 15) (L' := [some (.ref 215), some (.int p1), some (.int p2), none, none]) (st' := [.int (0 : Int32), .ref 215]) (M' := M9) rfl ?_
      exact Ev.forget (mLe.kp (mLe.kp (mLe.kp (mLe.sk (mLe.sk mLe.nl))))) (e_X12_pushes_15  h hk)
/-- WakeTowerModel.tellOf(I)I: 306, R -/
theorem kc_306 : mKc 306 = k_X12_tellOf := rfl
def f_X12_tellOf_9 (l2 : Int32) (l3 : Int32) (M0 : mM) : Option (Int32 ⊕ (Int32 × Int32)) :=
  bif decide ((8 : Int32) ≤ l3) then (some (.inl (-1 : Int32))) else (bif decide (l2 = 0) then (some (.inl (-1 : Int32))) else (b1 (f_X12_holders M0) (fun v3 => bif decide (¬ l2 = v3) then (b1 (f_X12_holders M0) (fun v5 => b1 (f_X12_touchedBy l2 v5 M0) (fun v6 => some (.inr (v6, (l3 + (1 : Int32))))))) else (some (.inl l3)))))
set_option maxRecDepth 8000 in
theorem e_X12_tellOf_9 {l2 : Int32} {l3 : Int32} {M0 : mM} {R : mZ} {out : (Int32 ⊕ (Int32 × Int32))}  (h : f_X12_tellOf_9 l2 l3 M0 = some out) (hk : (∀ s' : Int32 × Int32, out = .inr s' → Ev (5) 306 9 [some (.ref 215), none, some (.int s'.1), some (.int s'.2)] [] M0 R) ∧ (∀ e1 : Int32, out = .inl e1 → R = emR eI M0 e1)) : Ev (5) 306 9 [some (.ref 215), none, some (.int l2), some (.int l3)] [] M0 R := by
  unfold f_X12_tellOf_9 at h
  rcases o_bif h with ⟨hb1, h⟩ | ⟨hb1, h⟩
  · refine ev_goT kc_306 3 (t := 28) (e := 12) (L' := [some (.ref 215), none, some (.int l2), some (.int l3)]) (st' := []) rfl hb1 ?_
    refine ev_go kc_306 1 (i' := 29) (L' := [some (.ref 215), none, some (.int l2), some (.int l3)]) (st' := [.int (-1 : Int32)]) (M' := M0) rfl ?_
    obtain rfl := Option.some.inj h
    rw [show _ from (hk.2 _ rfl)]
    exact ev_ret kc_306 rfl rfl rfl
  · refine ev_goF kc_306 3 (t := 28) (e := 12) (L' := [some (.ref 215), none, some (.int l2), some (.int l3)]) (st' := []) rfl hb1 ?_
    rcases o_bif h with ⟨hb2, h⟩ | ⟨hb2, h⟩
    · refine ev_goT kc_306 2 (t := 28) (e := 14) (L' := [some (.ref 215), none, some (.int l2), some (.int l3)]) (st' := []) rfl hb2 ?_
      refine ev_go kc_306 1 (i' := 29) (L' := [some (.ref 215), none, some (.int l2), some (.int l3)]) (st' := [.int (-1 : Int32)]) (M' := M0) rfl ?_
      obtain rfl := Option.some.inj h
      rw [show _ from (hk.2 _ rfl)]
      exact ev_ret kc_306 rfl rfl rfl
    · refine ev_goF kc_306 2 (t := 28) (e := 14) (L' := [some (.ref 215), none, some (.int l2), some (.int l3)]) (st' := []) rfl hb2 ?_
      refine ev_go kc_306 2 (i' := 16) (L' := [some (.ref 215), none, some (.int l2), some (.int l3)]) (st' := [.ref 215, .int l2]) (M' := M0) rfl ?_
      obtain ⟨v3, hc3, h⟩ := o_b1 h
      refine ev_cl0 (ins := .invokevirtual 97) kc_306 rfl rfl (a := 198) (as := [.ref 215]) (rest := [.int l2]) rfl rfl (Cs.deep (c_X12_holders (M0 := M0) hc3) (by decide)) ?_
      rcases o_bif h with ⟨hb4, h⟩ | ⟨hb4, h⟩
      · refine ev_goT kc_306 1 (t := 20) (e := 18) (L' := [some (.ref 215), none, some (.int l2), some (.int l3)]) (st' := []) rfl hb4 ?_
        refine ev_go kc_306 3 (i' := 23) (L' := [some (.ref 215), none, some (.int l2), some (.int l3)]) (st' := [.ref 215, .int l2, .ref 215]) (M' := M0) rfl ?_
        obtain ⟨v5, hc5, h⟩ := o_b1 h
        refine ev_cl0 (ins := .invokevirtual 97) kc_306 rfl rfl (a := 198) (as := [.ref 215]) (rest := [.int l2, .ref 215]) rfl rfl (Cs.deep (c_X12_holders (M0 := M0) hc5) (by decide)) ?_
        obtain ⟨v6, hc6, h⟩ := o_b1 h
        refine ev_cl0 (ins := .invokevirtual 433) kc_306 rfl rfl (a := 303) (as := [.ref 215, .int l2, .int v5]) (rest := []) rfl rfl (Cs.deep (c_X12_touchedBy (M0 := M0) hc6) (by decide)) ?_
        refine ev_go kc_306 3 (i' := 9) (L' := [some (.ref 215), none, some (.int v6), some (.int (l3 + (1 : Int32)))]) (st' := []) (M' := M0) rfl ?_
        obtain rfl := Option.some.inj h
        exact Ev.forget (mLe.kp (mLe.sk (mLe.kp (mLe.kp mLe.nl)))) (hk.1 (v6, (l3 + (1 : Int32))) rfl)
      · refine ev_goF kc_306 1 (t := 20) (e := 18) (L' := [some (.ref 215), none, some (.int l2), some (.int l3)]) (st' := []) rfl hb4 ?_
        refine ev_go kc_306 1 (i' := 19) (L' := [some (.ref 215), none, some (.int l2), some (.int l3)]) (st' := [.int l3]) (M' := M0) rfl ?_
        obtain rfl := Option.some.inj h
        rw [show _ from (hk.2 _ rfl)]
        exact ev_ret kc_306 rfl rfl rfl
def f_X12_tellOf_l9 (l2 : Int32) (l3 : Int32) (M0 : mM) : Option Int32 :=
  wh 100000 (fun s : Int32 × Int32 => f_X12_tellOf_9 s.1 s.2 M0) (l2, l3)
theorem e_X12_tellOf_l9 {l2 : Int32} {l3 : Int32} {M0 : mM} {R : mZ} {out : Int32}  (h : f_X12_tellOf_l9 l2 l3 M0 = some out) (hk : R = emR eI M0 out) : Ev (5) 306 9 [some (.ref 215), none, some (.int l2), some (.int l3)] [] M0 R := by
  unfold f_X12_tellOf_l9 at h
  exact wh_ev (P := fun s : Int32 × Int32 => Ev (5) 306 9 [some (.ref 215), none, some (.int s.1), some (.int s.2)] [] M0 R) (Q := fun e : Int32 => R = emR eI M0 e) (fun s o hb h1 h2 => e_X12_tellOf_9  hb ⟨h1, h2⟩) 100000 _ _ h hk
def f_X12_tellOf (p1 : Int32) (M0 : mM) : Option Int32 :=
  b1 (f_X12_holders M0) (fun v7 => f_X12_tellOf_l9 (((1 : Int32) <<< (p1 &&& (31 : Int32))) &&& v7) (0 : Int32) M0)
set_option maxRecDepth 8000 in
theorem c_X12_tellOf {p1 : Int32} {M0 : mM} {out : Int32} (h : f_X12_tellOf p1 M0 = some out) : Cs (5) 306 [.ref 215, .int p1] M0 (emR eI M0 out) := by
  generalize hk : emR eI M0 out = R
  replace hk := hk.symm
  unfold f_X12_tellOf at h
  show Ev (5) 306 0 [some (.ref 215), some (.int p1), none, none] [] M0 R
  refine ev_go kc_306 4 (i' := 4) (L' := [some (.ref 215), some (.int p1), none, none]) (st' := [.ref 215, .int ((1 : Int32) <<< (p1 &&& (31 : Int32)))]) (M' := M0) rfl ?_
  obtain ⟨v7, hc7, h⟩ := o_b1 h
  refine ev_cl0 (ins := .invokevirtual 97) kc_306 rfl rfl (a := 198) (as := [.ref 215]) (rest := [.int ((1 : Int32) <<< (p1 &&& (31 : Int32)))]) rfl rfl (Cs.deep (c_X12_holders (M0 := M0) hc7) (by decide)) ?_
  refine ev_go kc_306 4 (i' := 9) (L' := [some (.ref 215), some (.int p1), some (.int (((1 : Int32) <<< (p1 &&& (31 : Int32))) &&& v7)), some (.int (0 : Int32))]) (st' := []) (M' := M0) rfl ?_
  exact Ev.forget (mLe.kp (mLe.sk (mLe.kp (mLe.kp mLe.nl)))) (e_X12_tellOf_l9  h hk)
/-- WakeTowerModel.tell(I)I: 307, W -/
theorem kc_307 : mKc 307 = k_X12_tell := rfl
def f_X12_tell (p1 : Int32) (M0 : mM) : Option (Int32 × mM) :=
  wr (mst M0 215 0 (0 : Int32)) (fun M1 => b1 (f_X12_nobody p1 M1) (fun v2 => b2 (f_X12_throwsIf v2 (1 : Int32) M1) (fun v3 M3 => bif v3 then (some ((0 : Int32), M3)) else (b1 (f_X12_tellOf p1 M3) (fun v5 => some (v5, M3))))))
set_option maxRecDepth 8000 in
theorem c_X12_tell {p1 : Int32} {M0 : mM} {out : (Int32 × mM)} (h : f_X12_tell p1 M0 = some out) : Cs (6) 307 [.ref 215, .int p1] M0 (emW eI out) := by
  generalize hk : emW eI out = R
  replace hk := hk.symm
  unfold f_X12_tell at h
  show Ev (6) 307 0 [some (.ref 215), some (.int p1)] [] M0 R
  refine ev_go kc_307 2 (i' := 2) (L' := [some (.ref 215), some (.int p1)]) (st' := [.int (0 : Int32), .ref 215]) (M' := M0) rfl ?_
  obtain ⟨M1, hM1, h⟩ := o_wr h
  refine ev_pf kc_307 rfl rfl rfl rfl (fun hc => absurd hc (by decide)) hM1 ?_
  refine ev_go kc_307 3 (i' := 6) (L' := [some (.ref 215), some (.int p1)]) (st' := [.int p1, .ref 215, .ref 215]) (M' := M1) rfl ?_
  obtain ⟨v2, hc2, h⟩ := o_b1 h
  refine ev_cl0 (ins := .invokevirtual 329) kc_307 rfl rfl (a := 201) (as := [.ref 215, .int p1]) (rest := [.ref 215]) rfl rfl (Cs.deep (c_X12_nobody (M0 := M1) hc2) (by decide)) ?_
  refine ev_go kc_307 1 (i' := 8) (L' := [some (.ref 215), some (.int p1)]) (st' := [.int (1 : Int32), .int (mB v2), .ref 215]) (M' := M1) rfl ?_
  obtain ⟨v3, M3, hc3, h⟩ := o_b2 h
  refine ev_cl0 (ins := .invokevirtual 304) kc_307 rfl rfl (a := 181) (as := [.ref 215, .int (mB v2), .int (1 : Int32)]) (rest := []) rfl rfl (Cs.deep (c_X12_throwsIf hc3) (by decide)) ?_
  rcases o_bif h with ⟨hb4, h⟩ | ⟨hb4, h⟩
  · refine ev_goF kc_307 1 (t := 12) (e := 10) (L' := [some (.ref 215), some (.int p1)]) (st' := []) rfl (mB_e0f hb4) ?_
    refine ev_go kc_307 2 (i' := 15) (L' := [some (.ref 215), some (.int p1)]) (st' := [.int (0 : Int32)]) (M' := M3) rfl ?_
    obtain rfl := Option.some.inj h
    rw [hk]
    exact ev_ret kc_307 rfl rfl rfl
  · refine ev_goT kc_307 1 (t := 12) (e := 10) (L' := [some (.ref 215), some (.int p1)]) (st' := []) rfl (mB_e0t hb4) ?_
    refine ev_go kc_307 2 (i' := 14) (L' := [some (.ref 215), some (.int p1)]) (st' := [.int p1, .ref 215]) (M' := M3) rfl ?_
    obtain ⟨v5, hc5, h⟩ := o_b1 h
    refine ev_cl0 (ins := .invokevirtual 436) kc_307 rfl rfl (a := 306) (as := [.ref 215, .int p1]) (rest := []) rfl rfl (Cs.deep (c_X12_tellOf (M0 := M3) hc5) (by decide)) ?_
    obtain rfl := Option.some.inj h
    rw [hk]
    exact ev_ret kc_307 rfl rfl rfl
/-- WakeTowerModel.herald()I: 308, W -/
theorem kc_308 : mKc 308 = k_X12_herald := rfl
def f_X12_herald_30 (l2 : Int32) (l3 : Int32) (l4 : Int32) (s0 : Int32) (M0 : mM) : Option ((Int32 × mM) ⊕ (Int32 × Int32 × Int32)) :=
  some (.inr (s0, (mMin l2 l4), (l3 + (1 : Int32))))
set_option maxRecDepth 8000 in
theorem e_X12_herald_30 {l2 : Int32} {l3 : Int32} {l4 : Int32} {s0 : Int32} {M0 : mM} {R : mZ} {out : ((Int32 × mM) ⊕ (Int32 × Int32 × Int32))}  (h : f_X12_herald_30 l2 l3 l4 s0 M0 = some out) (hk : (∀ s' : Int32 × Int32 × Int32, out = .inr s' → Ev (8) 308 9 [some (.ref 215), some (.int s'.1), some (.int s'.2.1), some (.int s'.2.2), none] [] M0 R) ∧ (∀ e1 : (Int32 × mM), out = .inl e1 → R = emW eI e1)) : Ev (8) 308 30 [some (.ref 215), none, some (.int l2), some (.int l3), some (.int l4)] [.int s0] M0 R := by
  unfold f_X12_herald_30 at h
  refine ev_go kc_308 3 (i' := 33) (L' := [some (.ref 215), some (.int s0), some (.int l2), some (.int l3), some (.int l4)]) (st' := [.int l4, .int l2]) (M' := M0) rfl ?_
  refine ev_pm kc_308 rfl rfl rfl rfl (as := [.int l2, .int l4]) (rest := []) rfl rfl rfl (v := some (mMin l2 l4)) rfl ?_
  refine ev_go kc_308 3 (i' := 9) (L' := [some (.ref 215), some (.int s0), some (.int (mMin l2 l4)), some (.int (l3 + (1 : Int32))), some (.int l4)]) (st' := []) (M' := M0) rfl ?_
  obtain rfl := Option.some.inj h
  exact Ev.forget (mLe.kp (mLe.kp (mLe.kp (mLe.kp (mLe.sk mLe.nl))))) (hk.1 (s0, (mMin l2 l4), (l3 + (1 : Int32))) rfl)
def f_X12_herald_23 (l1 : Int32) (l2 : Int32) (l3 : Int32) (s0 : Int32) (M0 : mM) : Option ((Int32 × mM) ⊕ (Int32 × Int32 × Int32)) :=
  bif decide (l2 ≤ s0) then (f_X12_herald_30 l2 l3 s0 l1 M0) else (f_X12_herald_30 l2 l3 s0 l3 M0)
set_option maxRecDepth 8000 in
theorem e_X12_herald_23 {l1 : Int32} {l2 : Int32} {l3 : Int32} {s0 : Int32} {M0 : mM} {R : mZ} {out : ((Int32 × mM) ⊕ (Int32 × Int32 × Int32))}  (h : f_X12_herald_23 l1 l2 l3 s0 M0 = some out) (hk : (∀ s' : Int32 × Int32 × Int32, out = .inr s' → Ev (8) 308 9 [some (.ref 215), some (.int s'.1), some (.int s'.2.1), some (.int s'.2.2), none] [] M0 R) ∧ (∀ e1 : (Int32 × mM), out = .inl e1 → R = emW eI e1)) : Ev (8) 308 23 [some (.ref 215), some (.int l1), some (.int l2), some (.int l3), none] [.int s0] M0 R := by
  unfold f_X12_herald_23 at h
  rcases o_bif h with ⟨hb1, h⟩ | ⟨hb1, h⟩
  · refine ev_goT kc_308 4 (t := 29) (e := 27) (L' := [some (.ref 215), some (.int l1), some (.int l2), some (.int l3), some (.int s0)]) (st' := []) rfl hb1 ?_
    refine ev_go kc_308 1 (i' := 30) (L' := [some (.ref 215), some (.int l1), some (.int l2), some (.int l3), some (.int s0)]) (st' := [.int l1]) (M' := M0) rfl ?_
    exact Ev.forget (mLe.kp (mLe.sk (mLe.kp (mLe.kp (mLe.kp mLe.nl))))) (e_X12_herald_30  h hk)
  · refine ev_goF kc_308 4 (t := 29) (e := 27) (L' := [some (.ref 215), some (.int l1), some (.int l2), some (.int l3), some (.int s0)]) (st' := []) rfl hb1 ?_
    refine ev_go kc_308 2 (i' := 30) (L' := [some (.ref 215), some (.int l1), some (.int l2), some (.int l3), some (.int s0)]) (st' := [.int l3]) (M' := M0) rfl ?_
    exact Ev.forget (mLe.kp (mLe.sk (mLe.kp (mLe.kp (mLe.kp mLe.nl))))) (e_X12_herald_30  h hk)
def f_X12_herald_9 (l1 : Int32) (l2 : Int32) (l3 : Int32) (M0 : mM) : Option ((Int32 × mM) ⊕ (Int32 × Int32 × Int32)) :=
  b1 (f_X12_people M0) (fun v2 => bif decide (v2 ≤ l3) then (some (.inl (l1, M0))) else (b1 (f_X12_tellOf l3 M0) (fun v4 => bif decide (¬ v4 = (-1 : Int32)) then (b1 (f_X12_tellOf l3 M0) (fun v6 => f_X12_herald_23 l1 l2 l3 v6 M0)) else (f_X12_herald_23 l1 l2 l3 (1000000 : Int32) M0))))
set_option maxRecDepth 8000 in
theorem e_X12_herald_9 {l1 : Int32} {l2 : Int32} {l3 : Int32} {M0 : mM} {R : mZ} {out : ((Int32 × mM) ⊕ (Int32 × Int32 × Int32))}  (h : f_X12_herald_9 l1 l2 l3 M0 = some out) (hk : (∀ s' : Int32 × Int32 × Int32, out = .inr s' → Ev (8) 308 9 [some (.ref 215), some (.int s'.1), some (.int s'.2.1), some (.int s'.2.2), none] [] M0 R) ∧ (∀ e1 : (Int32 × mM), out = .inl e1 → R = emW eI e1)) : Ev (8) 308 9 [some (.ref 215), some (.int l1), some (.int l2), some (.int l3), none] [] M0 R := by
  unfold f_X12_herald_9 at h
  refine ev_go kc_308 2 (i' := 11) (L' := [some (.ref 215), some (.int l1), some (.int l2), some (.int l3), none]) (st' := [.ref 215, .int l3]) (M' := M0) rfl ?_
  obtain ⟨v2, hc2, h⟩ := o_b1 h
  refine ev_cl0 (ins := .invokevirtual 71) kc_308 rfl rfl (a := 190) (as := [.ref 215]) (rest := [.int l3]) rfl rfl (Cs.deep (c_X12_people (M0 := M0) hc2) (by decide)) ?_
  rcases o_bif h with ⟨hb3, h⟩ | ⟨hb3, h⟩
  · refine ev_goT kc_308 1 (t := 37) (e := 13) (L' := [some (.ref 215), some (.int l1), some (.int l2), some (.int l3), none]) (st' := []) rfl hb3 ?_
    refine ev_go kc_308 1 (i' := 38) (L' := [some (.ref 215), some (.int l1), some (.int l2), some (.int l3), none]) (st' := [.int l1]) (M' := M0) rfl ?_
    obtain rfl := Option.some.inj h
    rw [show _ from (hk.2 _ rfl)]
    exact ev_ret kc_308 rfl rfl rfl
  · refine ev_goF kc_308 1 (t := 37) (e := 13) (L' := [some (.ref 215), some (.int l1), some (.int l2), some (.int l3), none]) (st' := []) rfl hb3 ?_
    refine ev_go kc_308 2 (i' := 15) (L' := [some (.ref 215), some (.int l1), some (.int l2), some (.int l3), none]) (st' := [.int l3, .ref 215]) (M' := M0) rfl ?_
    obtain ⟨v4, hc4, h⟩ := o_b1 h
    refine ev_cl0 (ins := .invokevirtual 436) kc_308 rfl rfl (a := 306) (as := [.ref 215, .int l3]) (rest := []) rfl rfl (Cs.deep (c_X12_tellOf (M0 := M0) hc4) (by decide)) ?_
    rcases o_bif h with ⟨hb5, h⟩ | ⟨hb5, h⟩
    · refine ev_goT kc_308 2 (t := 20) (e := 18) (L' := [some (.ref 215), some (.int l1), some (.int l2), some (.int l3), none]) (st' := []) rfl hb5 ?_
      refine ev_go kc_308 2 (i' := 22) (L' := [some (.ref 215), some (.int l1), some (.int l2), some (.int l3), none]) (st' := [.int l3, .ref 215]) (M' := M0) rfl ?_
      obtain ⟨v6, hc6, h⟩ := o_b1 h
      refine ev_cl0 (ins := .invokevirtual 436) kc_308 rfl rfl (a := 306) (as := [.ref 215, .int l3]) (rest := []) rfl rfl (Cs.deep (c_X12_tellOf (M0 := M0) hc6) (by decide)) ?_
      exact Ev.forget (mLe.kp (mLe.kp (mLe.kp (mLe.kp (mLe.sk mLe.nl))))) (e_X12_herald_23  h hk)
    · refine ev_goF kc_308 2 (t := 20) (e := 18) (L' := [some (.ref 215), some (.int l1), some (.int l2), some (.int l3), none]) (st' := []) rfl hb5 ?_
      refine ev_go kc_308 2 (i' := 23) (L' := [some (.ref 215), some (.int l1), some (.int l2), some (.int l3), none]) (st' := [.int (1000000 : Int32)]) (M' := M0) rfl ?_
      exact Ev.forget (mLe.kp (mLe.kp (mLe.kp (mLe.kp (mLe.sk mLe.nl))))) (e_X12_herald_23  h hk)
def f_X12_herald_l9 (l1 : Int32) (l2 : Int32) (l3 : Int32) (M0 : mM) : Option (Int32 × mM) :=
  wh 100000 (fun s : Int32 × Int32 × Int32 => f_X12_herald_9 s.1 s.2.1 s.2.2 M0) (l1, l2, l3)
theorem e_X12_herald_l9 {l1 : Int32} {l2 : Int32} {l3 : Int32} {M0 : mM} {R : mZ} {out : (Int32 × mM)}  (h : f_X12_herald_l9 l1 l2 l3 M0 = some out) (hk : R = emW eI out) : Ev (8) 308 9 [some (.ref 215), some (.int l1), some (.int l2), some (.int l3), none] [] M0 R := by
  unfold f_X12_herald_l9 at h
  exact wh_ev (P := fun s : Int32 × Int32 × Int32 => Ev (8) 308 9 [some (.ref 215), some (.int s.1), some (.int s.2.1), some (.int s.2.2), none] [] M0 R) (Q := fun e : (Int32 × mM) => R = emW eI e) (fun s o hb h1 h2 => e_X12_herald_9  hb ⟨h1, h2⟩) 100000 _ _ h hk
def f_X12_herald  (M0 : mM) : Option (Int32 × mM) :=
  wr (mst M0 215 0 (0 : Int32)) (fun M7 => f_X12_herald_l9 (-1 : Int32) (1000000 : Int32) (0 : Int32) M7)
set_option maxRecDepth 8000 in
theorem c_X12_herald  {M0 : mM} {out : (Int32 × mM)} (h : f_X12_herald M0 = some out) : Cs (8) 308 [.ref 215] M0 (emW eI out) := by
  generalize hk : emW eI out = R
  replace hk := hk.symm
  unfold f_X12_herald at h
  show Ev (8) 308 0 [some (.ref 215), none, none, none, none] [] M0 R
  refine ev_go kc_308 2 (i' := 2) (L' := [some (.ref 215), none, none, none, none]) (st' := [.int (0 : Int32), .ref 215]) (M' := M0) rfl ?_
  obtain ⟨M7, hM7, h⟩ := o_wr h
  refine ev_pf kc_308 rfl rfl rfl rfl (fun hc => absurd hc (by decide)) hM7 ?_
  refine ev_go kc_308 6 (i' := 9) (L' := [some (.ref 215), some (.int (-1 : Int32)), some (.int (1000000 : Int32)), some (.int (0 : Int32)), none]) (st' := []) (M' := M7) rfl ?_
  exact Ev.forget (mLe.kp (mLe.kp (mLe.kp (mLe.kp (mLe.sk mLe.nl))))) (e_X12_herald_l9  h hk)
/-- WakeTowerModel.pairsAmong(II)I: 309, R -/
theorem kc_309 : mKc 309 = k_X12_pairsAmong := rfl
def f_X12_pairsAmong_34 (l1 : Int32) (l2 : Int32) (l4 : Int32) (s0 : Int32) (s1 : Int32) (s2 : Int32) (M0 : mM) : Option (Int32 ⊕ (Int32 × Int32)) :=
  some (.inr ((s0 + (f_J6_bitCount_0f7a4 (s1 &&& (s2 ^^^ (-1 : Int32))))), (l4 + (1 : Int32))))
set_option maxRecDepth 8000 in
theorem e_X12_pairsAmong_34 {l1 : Int32} {l2 : Int32} {l4 : Int32} {s0 : Int32} {s1 : Int32} {s2 : Int32} {M0 : mM} {R : mZ} {out : (Int32 ⊕ (Int32 × Int32))}  (h : f_X12_pairsAmong_34 l1 l2 l4 s0 s1 s2 M0 = some out) (hk : (∀ s' : Int32 × Int32, out = .inr s' → Ev (5) 309 4 [some (.ref 215), some (.int l1), some (.int l2), some (.int s'.1), some (.int s'.2)] [] M0 R) ∧ (∀ e1 : Int32, out = .inl e1 → R = emR eI M0 e1)) : Ev (5) 309 34 [some (.ref 215), some (.int l1), some (.int l2), none, some (.int l4)] [.int s2, .int s1, .int s0] M0 R := by
  unfold f_X12_pairsAmong_34 at h
  refine ev_go kc_309 3 (i' := 37) (L' := [some (.ref 215), some (.int l1), some (.int l2), none, some (.int l4)]) (st' := [.int (s1 &&& (s2 ^^^ (-1 : Int32))), .int s0]) (M' := M0) rfl ?_
  refine ev_cl0 (ins := .invokestatic 100) kc_309 rfl rfl (a := 10) (as := [.int (s1 &&& (s2 ^^^ (-1 : Int32)))]) (rest := [.int s0]) rfl rfl (Cs.deep (c_J6_bitCount_0f7a4 (M0 := M0)) (by decide)) ?_
  refine ev_go kc_309 4 (i' := 4) (L' := [some (.ref 215), some (.int l1), some (.int l2), some (.int (s0 + (f_J6_bitCount_0f7a4 (s1 &&& (s2 ^^^ (-1 : Int32)))))), some (.int (l4 + (1 : Int32)))]) (st' := []) (M' := M0) rfl ?_
  obtain rfl := Option.some.inj h
  exact Ev.forget (mLe.kp (mLe.kp (mLe.kp (mLe.kp (mLe.kp mLe.nl))))) (hk.1 ((s0 + (f_J6_bitCount_0f7a4 (s1 &&& (s2 ^^^ (-1 : Int32))))), (l4 + (1 : Int32))) rfl)
def f_X12_pairsAmong_4 (l1 : Int32) (l2 : Int32) (l3 : Int32) (l4 : Int32) (M0 : mM) : Option (Int32 ⊕ (Int32 × Int32)) :=
  b1 (f_X12_people M0) (fun v2 => bif decide (v2 ≤ l4) then (some (.inl (l3 / (2 : Int32)))) else (bif decide (l4 = l2) then (some (.inr (l3, (l4 + (1 : Int32))))) else (bif (f_X12_has l1 l4) then (b1 (f_X12_reachedFrom l4 l1 M0) (fun v7 => bif decide (¬ l2 = (-1 : Int32)) then (f_X12_pairsAmong_34 l1 l2 l4 l3 (v7 &&& (((1 : Int32) <<< (l4 &&& (31 : Int32))) ^^^ (-1 : Int32))) ((1 : Int32) <<< (l2 &&& (31 : Int32))) M0) else (f_X12_pairsAmong_34 l1 l2 l4 l3 (v7 &&& (((1 : Int32) <<< (l4 &&& (31 : Int32))) ^^^ (-1 : Int32))) (0 : Int32) M0))) else (some (.inr (l3, (l4 + (1 : Int32))))))))
set_option maxRecDepth 8000 in
theorem e_X12_pairsAmong_4 {l1 : Int32} {l2 : Int32} {l3 : Int32} {l4 : Int32} {M0 : mM} {R : mZ} {out : (Int32 ⊕ (Int32 × Int32))}  (h : f_X12_pairsAmong_4 l1 l2 l3 l4 M0 = some out) (hk : (∀ s' : Int32 × Int32, out = .inr s' → Ev (5) 309 4 [some (.ref 215), some (.int l1), some (.int l2), some (.int s'.1), some (.int s'.2)] [] M0 R) ∧ (∀ e1 : Int32, out = .inl e1 → R = emR eI M0 e1)) : Ev (5) 309 4 [some (.ref 215), some (.int l1), some (.int l2), some (.int l3), some (.int l4)] [] M0 R := by
  unfold f_X12_pairsAmong_4 at h
  refine ev_go kc_309 2 (i' := 6) (L' := [some (.ref 215), some (.int l1), some (.int l2), some (.int l3), some (.int l4)]) (st' := [.ref 215, .int l4]) (M' := M0) rfl ?_
  obtain ⟨v2, hc2, h⟩ := o_b1 h
  refine ev_cl0 (ins := .invokevirtual 71) kc_309 rfl rfl (a := 190) (as := [.ref 215]) (rest := [.int l4]) rfl rfl (Cs.deep (c_X12_people (M0 := M0) hc2) (by decide)) ?_
  rcases o_bif h with ⟨hb3, h⟩ | ⟨hb3, h⟩
  · refine ev_goT kc_309 1 (t := 42) (e := 8) (L' := [some (.ref 215), some (.int l1), some (.int l2), some (.int l3), some (.int l4)]) (st' := []) rfl hb3 ?_
    refine ev_go kc_309 3 (i' := 45) (L' := [some (.ref 215), some (.int l1), some (.int l2), some (.int l3), some (.int l4)]) (st' := [.int (l3 / (2 : Int32))]) (M' := M0) rfl ?_
    obtain rfl := Option.some.inj h
    rw [show _ from (hk.2 _ rfl)]
    exact ev_ret kc_309 rfl rfl rfl
  · refine ev_goF kc_309 1 (t := 42) (e := 8) (L' := [some (.ref 215), some (.int l1), some (.int l2), some (.int l3), some (.int l4)]) (st' := []) rfl hb3 ?_
    rcases o_bif h with ⟨hb4, h⟩ | ⟨hb4, h⟩
    · refine ev_goT kc_309 3 (t := 40) (e := 11) (L' := [some (.ref 215), some (.int l1), some (.int l2), some (.int l3), some (.int l4)]) (st' := []) rfl hb4 ?_
      refine ev_go kc_309 2 (i' := 4) (L' := [some (.ref 215), some (.int l1), some (.int l2), some (.int l3), some (.int (l4 + (1 : Int32)))]) (st' := []) (M' := M0) rfl ?_
      obtain rfl := Option.some.inj h
      exact Ev.forget (mLe.kp (mLe.kp (mLe.kp (mLe.kp (mLe.kp mLe.nl))))) (hk.1 (l3, (l4 + (1 : Int32))) rfl)
    · refine ev_goF kc_309 3 (t := 40) (e := 11) (L' := [some (.ref 215), some (.int l1), some (.int l2), some (.int l3), some (.int l4)]) (st' := []) rfl hb4 ?_
      refine ev_go kc_309 2 (i' := 13) (L' := [some (.ref 215), some (.int l1), some (.int l2), some (.int l3), some (.int l4)]) (st' := [.int l4, .int l1]) (M' := M0) rfl ?_
      refine ev_cl0 (ins := .invokestatic 106) kc_309 rfl rfl (a := 183) (as := [.int l1, .int l4]) (rest := []) rfl rfl (Cs.deep (c_X12_has (M0 := M0)) (by decide)) ?_
      rcases o_bif h with ⟨hb6, h⟩ | ⟨hb6, h⟩
      · refine ev_goF kc_309 1 (t := 40) (e := 15) (L' := [some (.ref 215), some (.int l1), some (.int l2), some (.int l3), some (.int l4)]) (st' := []) rfl (mB_e0f hb6) ?_
        refine ev_go kc_309 4 (i' := 19) (L' := [some (.ref 215), some (.int l1), some (.int l2), some (.int l3), some (.int l4)]) (st' := [.int l1, .int l4, .ref 215, .int l3]) (M' := M0) rfl ?_
        obtain ⟨v7, hc7, h⟩ := o_b1 h
        refine ev_cl0 (ins := .invokevirtual 439) kc_309 rfl rfl (a := 304) (as := [.ref 215, .int l4, .int l1]) (rest := [.int l3]) rfl rfl (Cs.deep (c_X12_reachedFrom (M0 := M0) hc7) (by decide)) ?_
        rcases o_bif h with ⟨hb8, h⟩ | ⟨hb8, h⟩
        · refine ev_goT kc_309 9 (t := 31) (e := 29) (L' := [some (.ref 215), some (.int l1), some (.int l2), some (.int l3), some (.int l4)]) (st' := [.int (v7 &&& (((1 : Int32) <<< (l4 &&& (31 : Int32))) ^^^ (-1 : Int32))), .int l3]) rfl hb8 ?_
          refine ev_go kc_309 3 (i' := 34) (L' := [some (.ref 215), some (.int l1), some (.int l2), some (.int l3), some (.int l4)]) (st' := [.int ((1 : Int32) <<< (l2 &&& (31 : Int32))), .int (v7 &&& (((1 : Int32) <<< (l4 &&& (31 : Int32))) ^^^ (-1 : Int32))), .int l3]) (M' := M0) rfl ?_
          exact Ev.forget (mLe.kp (mLe.kp (mLe.kp (mLe.sk (mLe.kp mLe.nl))))) (e_X12_pairsAmong_34  h hk)
        · refine ev_goF kc_309 9 (t := 31) (e := 29) (L' := [some (.ref 215), some (.int l1), some (.int l2), some (.int l3), some (.int l4)]) (st' := [.int (v7 &&& (((1 : Int32) <<< (l4 &&& (31 : Int32))) ^^^ (-1 : Int32))), .int l3]) rfl hb8 ?_
          refine ev_go kc_309 2 (i' := 34) (L' := [some (.ref 215), some (.int l1), some (.int l2), some (.int l3), some (.int l4)]) (st' := [.int (0 : Int32), .int (v7 &&& (((1 : Int32) <<< (l4 &&& (31 : Int32))) ^^^ (-1 : Int32))), .int l3]) (M' := M0) rfl ?_
          exact Ev.forget (mLe.kp (mLe.kp (mLe.kp (mLe.sk (mLe.kp mLe.nl))))) (e_X12_pairsAmong_34  h hk)
      · refine ev_goT kc_309 1 (t := 40) (e := 15) (L' := [some (.ref 215), some (.int l1), some (.int l2), some (.int l3), some (.int l4)]) (st' := []) rfl (mB_e0t hb6) ?_
        refine ev_go kc_309 2 (i' := 4) (L' := [some (.ref 215), some (.int l1), some (.int l2), some (.int l3), some (.int (l4 + (1 : Int32)))]) (st' := []) (M' := M0) rfl ?_
        obtain rfl := Option.some.inj h
        exact Ev.forget (mLe.kp (mLe.kp (mLe.kp (mLe.kp (mLe.kp mLe.nl))))) (hk.1 (l3, (l4 + (1 : Int32))) rfl)
def f_X12_pairsAmong_l4 (l1 : Int32) (l2 : Int32) (l3 : Int32) (l4 : Int32) (M0 : mM) : Option Int32 :=
  wh 100000 (fun s : Int32 × Int32 => f_X12_pairsAmong_4 l1 l2 s.1 s.2 M0) (l3, l4)
theorem e_X12_pairsAmong_l4 {l1 : Int32} {l2 : Int32} {l3 : Int32} {l4 : Int32} {M0 : mM} {R : mZ} {out : Int32}  (h : f_X12_pairsAmong_l4 l1 l2 l3 l4 M0 = some out) (hk : R = emR eI M0 out) : Ev (5) 309 4 [some (.ref 215), some (.int l1), some (.int l2), some (.int l3), some (.int l4)] [] M0 R := by
  unfold f_X12_pairsAmong_l4 at h
  exact wh_ev (P := fun s : Int32 × Int32 => Ev (5) 309 4 [some (.ref 215), some (.int l1), some (.int l2), some (.int s.1), some (.int s.2)] [] M0 R) (Q := fun e : Int32 => R = emR eI M0 e) (fun s o hb h1 h2 => e_X12_pairsAmong_4  hb ⟨h1, h2⟩) 100000 _ _ h hk
def f_X12_pairsAmong (p1 : Int32) (p2 : Int32) (M0 : mM) : Option Int32 :=
  f_X12_pairsAmong_l4 p1 p2 (0 : Int32) (0 : Int32) M0
set_option maxRecDepth 8000 in
theorem c_X12_pairsAmong {p1 : Int32} {p2 : Int32} {M0 : mM} {out : Int32} (h : f_X12_pairsAmong p1 p2 M0 = some out) : Cs (5) 309 [.ref 215, .int p1, .int p2] M0 (emR eI M0 out) := by
  generalize hk : emR eI M0 out = R
  replace hk := hk.symm
  unfold f_X12_pairsAmong at h
  show Ev (5) 309 0 [some (.ref 215), some (.int p1), some (.int p2), none, none] [] M0 R
  refine ev_go kc_309 4 (i' := 4) (L' := [some (.ref 215), some (.int p1), some (.int p2), some (.int (0 : Int32)), some (.int (0 : Int32))]) (st' := []) (M' := M0) rfl ?_
  exact Ev.forget (mLe.kp (mLe.kp (mLe.kp (mLe.kp (mLe.kp mLe.nl))))) (e_X12_pairsAmong_l4  h hk)
/-- WakeTowerModel.cuts(I)I: 310, W -/
theorem kc_310 : mKc 310 = k_X12_cuts := rfl
def f_X12_cuts (p1 : Int32) (M0 : mM) : Option (Int32 × mM) :=
  wr (mst M0 215 0 (0 : Int32)) (fun M1 => b1 (f_X12_nobody p1 M1) (fun v2 => b2 (f_X12_throwsIf v2 (1 : Int32) M1) (fun v3 M3 => bif v3 then (some ((0 : Int32), M3)) else (b1 (f_X12_holds p1 M3) (fun v5 => bif v5 then (b1 (f_X12_holders M3) (fun v7 => b1 (f_X12_pairsAmong v7 p1 M3) (fun v8 => b1 (f_X12_holders M3) (fun v9 => b1 (f_X12_pairsAmong (v9 &&& (((1 : Int32) <<< (p1 &&& (31 : Int32))) ^^^ (-1 : Int32))) p1 M3) (fun v10 => some ((v8 - v10), M3)))))) else (some ((0 : Int32), M3)))))))
set_option maxRecDepth 8000 in
theorem c_X12_cuts {p1 : Int32} {M0 : mM} {out : (Int32 × mM)} (h : f_X12_cuts p1 M0 = some out) : Cs (6) 310 [.ref 215, .int p1] M0 (emW eI out) := by
  generalize hk : emW eI out = R
  replace hk := hk.symm
  unfold f_X12_cuts at h
  show Ev (6) 310 0 [some (.ref 215), some (.int p1)] [] M0 R
  refine ev_go kc_310 2 (i' := 2) (L' := [some (.ref 215), some (.int p1)]) (st' := [.int (0 : Int32), .ref 215]) (M' := M0) rfl ?_
  obtain ⟨M1, hM1, h⟩ := o_wr h
  refine ev_pf kc_310 rfl rfl rfl rfl (fun hc => absurd hc (by decide)) hM1 ?_
  refine ev_go kc_310 3 (i' := 6) (L' := [some (.ref 215), some (.int p1)]) (st' := [.int p1, .ref 215, .ref 215]) (M' := M1) rfl ?_
  obtain ⟨v2, hc2, h⟩ := o_b1 h
  refine ev_cl0 (ins := .invokevirtual 329) kc_310 rfl rfl (a := 201) (as := [.ref 215, .int p1]) (rest := [.ref 215]) rfl rfl (Cs.deep (c_X12_nobody (M0 := M1) hc2) (by decide)) ?_
  refine ev_go kc_310 1 (i' := 8) (L' := [some (.ref 215), some (.int p1)]) (st' := [.int (1 : Int32), .int (mB v2), .ref 215]) (M' := M1) rfl ?_
  obtain ⟨v3, M3, hc3, h⟩ := o_b2 h
  refine ev_cl0 (ins := .invokevirtual 304) kc_310 rfl rfl (a := 181) (as := [.ref 215, .int (mB v2), .int (1 : Int32)]) (rest := []) rfl rfl (Cs.deep (c_X12_throwsIf hc3) (by decide)) ?_
  rcases o_bif h with ⟨hb4, h⟩ | ⟨hb4, h⟩
  · refine ev_goT kc_310 1 (t := 14) (e := 10) (L' := [some (.ref 215), some (.int p1)]) (st' := []) rfl (mB_n0t hb4) ?_
    refine ev_go kc_310 1 (i' := 15) (L' := [some (.ref 215), some (.int p1)]) (st' := [.int (0 : Int32)]) (M' := M3) rfl ?_
    obtain rfl := Option.some.inj h
    rw [hk]
    exact ev_ret kc_310 rfl rfl rfl
  · refine ev_goF kc_310 1 (t := 14) (e := 10) (L' := [some (.ref 215), some (.int p1)]) (st' := []) rfl (mB_n0f hb4) ?_
    refine ev_go kc_310 2 (i' := 12) (L' := [some (.ref 215), some (.int p1)]) (st' := [.int p1, .ref 215]) (M' := M3) rfl ?_
    obtain ⟨v5, hc5, h⟩ := o_b1 h
    refine ev_cl0 (ins := .invokevirtual 89) kc_310 rfl rfl (a := 196) (as := [.ref 215, .int p1]) (rest := []) rfl rfl (Cs.deep (c_X12_holds (M0 := M3) hc5) (by decide)) ?_
    rcases o_bif h with ⟨hb6, h⟩ | ⟨hb6, h⟩
    · refine ev_goT kc_310 1 (t := 16) (e := 14) (L' := [some (.ref 215), some (.int p1)]) (st' := []) rfl (mB_n0t hb6) ?_
      refine ev_go kc_310 2 (i' := 18) (L' := [some (.ref 215), some (.int p1)]) (st' := [.ref 215, .ref 215]) (M' := M3) rfl ?_
      obtain ⟨v7, hc7, h⟩ := o_b1 h
      refine ev_cl0 (ins := .invokevirtual 97) kc_310 rfl rfl (a := 198) (as := [.ref 215]) (rest := [.ref 215]) rfl rfl (Cs.deep (c_X12_holders (M0 := M3) hc7) (by decide)) ?_
      refine ev_go kc_310 1 (i' := 20) (L' := [some (.ref 215), some (.int p1)]) (st' := [.int p1, .int v7, .ref 215]) (M' := M3) rfl ?_
      obtain ⟨v8, hc8, h⟩ := o_b1 h
      refine ev_cl0 (ins := .invokevirtual 442) kc_310 rfl rfl (a := 309) (as := [.ref 215, .int v7, .int p1]) (rest := []) rfl rfl (Cs.deep (c_X12_pairsAmong (M0 := M3) hc8) (by decide)) ?_
      refine ev_go kc_310 2 (i' := 23) (L' := [some (.ref 215), some (.int p1)]) (st' := [.ref 215, .ref 215, .int v8]) (M' := M3) rfl ?_
      obtain ⟨v9, hc9, h⟩ := o_b1 h
      refine ev_cl0 (ins := .invokevirtual 97) kc_310 rfl rfl (a := 198) (as := [.ref 215]) (rest := [.ref 215, .int v8]) rfl rfl (Cs.deep (c_X12_holders (M0 := M3) hc9) (by decide)) ?_
      refine ev_go kc_310 7 (i' := 31) (L' := [some (.ref 215), some (.int p1)]) (st' := [.int p1, .int (v9 &&& (((1 : Int32) <<< (p1 &&& (31 : Int32))) ^^^ (-1 : Int32))), .ref 215, .int v8]) (M' := M3) rfl ?_
      obtain ⟨v10, hc10, h⟩ := o_b1 h
      refine ev_cl0 (ins := .invokevirtual 442) kc_310 rfl rfl (a := 309) (as := [.ref 215, .int (v9 &&& (((1 : Int32) <<< (p1 &&& (31 : Int32))) ^^^ (-1 : Int32))), .int p1]) (rest := [.int v8]) rfl rfl (Cs.deep (c_X12_pairsAmong (M0 := M3) hc10) (by decide)) ?_
      refine ev_go kc_310 1 (i' := 33) (L' := [some (.ref 215), some (.int p1)]) (st' := [.int (v8 - v10)]) (M' := M3) rfl ?_
      obtain rfl := Option.some.inj h
      rw [hk]
      exact ev_ret kc_310 rfl rfl rfl
    · refine ev_goF kc_310 1 (t := 16) (e := 14) (L' := [some (.ref 215), some (.int p1)]) (st' := []) rfl (mB_n0f hb6) ?_
      refine ev_go kc_310 1 (i' := 15) (L' := [some (.ref 215), some (.int p1)]) (st' := [.int (0 : Int32)]) (M' := M3) rfl ?_
      obtain rfl := Option.some.inj h
      rw [hk]
      exact ev_ret kc_310 rfl rfl rfl
/-- WakeTowerModel.fullOf(I)I: 311, R -/
theorem kc_311 : mKc 311 = k_X12_fullOf := rfl
def f_X12_fullOf_4 (l1 : Int32) (l2 : Int32) (l3 : Int32) (M0 : mM) : Option (Int32 ⊕ (Int32 × Int32)) :=
  b1 (f_X12_people M0) (fun v1 => bif decide (v1 ≤ l3) then (some (.inl l2)) else (bif (f_X12_has l1 l3) then (b1 (f_X12_of l3 (1 : Int32) M0) (fun v5 => some (.inr ((l2 + v5), (l3 + (1 : Int32)))))) else (some (.inr ((l2 + (0 : Int32)), (l3 + (1 : Int32)))))))
set_option maxRecDepth 8000 in
theorem e_X12_fullOf_4 {l1 : Int32} {l2 : Int32} {l3 : Int32} {M0 : mM} {R : mZ} {out : (Int32 ⊕ (Int32 × Int32))}  (h : f_X12_fullOf_4 l1 l2 l3 M0 = some out) (hk : (∀ s' : Int32 × Int32, out = .inr s' → Ev (2) 311 4 [some (.ref 215), some (.int l1), some (.int s'.1), some (.int s'.2)] [] M0 R) ∧ (∀ e1 : Int32, out = .inl e1 → R = emR eI M0 e1)) : Ev (2) 311 4 [some (.ref 215), some (.int l1), some (.int l2), some (.int l3)] [] M0 R := by
  unfold f_X12_fullOf_4 at h
  refine ev_go kc_311 2 (i' := 6) (L' := [some (.ref 215), some (.int l1), some (.int l2), some (.int l3)]) (st' := [.ref 215, .int l3]) (M' := M0) rfl ?_
  obtain ⟨v1, hc1, h⟩ := o_b1 h
  refine ev_cl0 (ins := .invokevirtual 71) kc_311 rfl rfl (a := 190) (as := [.ref 215]) (rest := [.int l3]) rfl rfl (Cs.deep (c_X12_people (M0 := M0) hc1) (by decide)) ?_
  rcases o_bif h with ⟨hb2, h⟩ | ⟨hb2, h⟩
  · refine ev_goT kc_311 1 (t := 23) (e := 8) (L' := [some (.ref 215), some (.int l1), some (.int l2), some (.int l3)]) (st' := []) rfl hb2 ?_
    refine ev_go kc_311 1 (i' := 24) (L' := [some (.ref 215), some (.int l1), some (.int l2), some (.int l3)]) (st' := [.int l2]) (M' := M0) rfl ?_
    obtain rfl := Option.some.inj h
    rw [show _ from (hk.2 _ rfl)]
    exact ev_ret kc_311 rfl rfl rfl
  · refine ev_goF kc_311 1 (t := 23) (e := 8) (L' := [some (.ref 215), some (.int l1), some (.int l2), some (.int l3)]) (st' := []) rfl hb2 ?_
    refine ev_go kc_311 3 (i' := 11) (L' := [some (.ref 215), some (.int l1), some (.int l2), some (.int l3)]) (st' := [.int l3, .int l1, .int l2]) (M' := M0) rfl ?_
    refine ev_cl0 (ins := .invokestatic 106) kc_311 rfl rfl (a := 183) (as := [.int l1, .int l3]) (rest := [.int l2]) rfl rfl (Cs.deep (c_X12_has (M0 := M0)) (by decide)) ?_
    rcases o_bif h with ⟨hb4, h⟩ | ⟨hb4, h⟩
    · refine ev_goF kc_311 1 (t := 18) (e := 13) (L' := [some (.ref 215), some (.int l1), some (.int l2), some (.int l3)]) (st' := [.int l2]) rfl (mB_e0f hb4) ?_
      refine ev_go kc_311 3 (i' := 16) (L' := [some (.ref 215), some (.int l1), some (.int l2), some (.int l3)]) (st' := [.int (1 : Int32), .int l3, .ref 215, .int l2]) (M' := M0) rfl ?_
      obtain ⟨v5, hc5, h⟩ := o_b1 h
      refine ev_cl0 (ins := .invokevirtual 79) kc_311 rfl rfl (a := 193) (as := [.ref 215, .int l3, .int (1 : Int32)]) (rest := [.int l2]) rfl rfl (Cs.deep (c_X12_of (M0 := M0) hc5) (by decide)) ?_
      refine ev_go kc_311 5 (i' := 4) (L' := [some (.ref 215), some (.int l1), some (.int (l2 + v5)), some (.int (l3 + (1 : Int32)))]) (st' := []) (M' := M0) rfl ?_
      obtain rfl := Option.some.inj h
      exact Ev.forget (mLe.kp (mLe.kp (mLe.kp (mLe.kp mLe.nl)))) (hk.1 ((l2 + v5), (l3 + (1 : Int32))) rfl)
    · refine ev_goT kc_311 1 (t := 18) (e := 13) (L' := [some (.ref 215), some (.int l1), some (.int l2), some (.int l3)]) (st' := [.int l2]) rfl (mB_e0t hb4) ?_
      refine ev_go kc_311 5 (i' := 4) (L' := [some (.ref 215), some (.int l1), some (.int (l2 + (0 : Int32))), some (.int (l3 + (1 : Int32)))]) (st' := []) (M' := M0) rfl ?_
      obtain rfl := Option.some.inj h
      exact Ev.forget (mLe.kp (mLe.kp (mLe.kp (mLe.kp mLe.nl)))) (hk.1 ((l2 + (0 : Int32)), (l3 + (1 : Int32))) rfl)
def f_X12_fullOf_l4 (l1 : Int32) (l2 : Int32) (l3 : Int32) (M0 : mM) : Option Int32 :=
  wh 100000 (fun s : Int32 × Int32 => f_X12_fullOf_4 l1 s.1 s.2 M0) (l2, l3)
theorem e_X12_fullOf_l4 {l1 : Int32} {l2 : Int32} {l3 : Int32} {M0 : mM} {R : mZ} {out : Int32}  (h : f_X12_fullOf_l4 l1 l2 l3 M0 = some out) (hk : R = emR eI M0 out) : Ev (2) 311 4 [some (.ref 215), some (.int l1), some (.int l2), some (.int l3)] [] M0 R := by
  unfold f_X12_fullOf_l4 at h
  exact wh_ev (P := fun s : Int32 × Int32 => Ev (2) 311 4 [some (.ref 215), some (.int l1), some (.int s.1), some (.int s.2)] [] M0 R) (Q := fun e : Int32 => R = emR eI M0 e) (fun s o hb h1 h2 => e_X12_fullOf_4  hb ⟨h1, h2⟩) 100000 _ _ h hk
def f_X12_fullOf (p1 : Int32) (M0 : mM) : Option Int32 :=
  f_X12_fullOf_l4 p1 (0 : Int32) (0 : Int32) M0
set_option maxRecDepth 8000 in
theorem c_X12_fullOf {p1 : Int32} {M0 : mM} {out : Int32} (h : f_X12_fullOf p1 M0 = some out) : Cs (2) 311 [.ref 215, .int p1] M0 (emR eI M0 out) := by
  generalize hk : emR eI M0 out = R
  replace hk := hk.symm
  unfold f_X12_fullOf at h
  show Ev (2) 311 0 [some (.ref 215), some (.int p1), none, none] [] M0 R
  refine ev_go kc_311 4 (i' := 4) (L' := [some (.ref 215), some (.int p1), some (.int (0 : Int32)), some (.int (0 : Int32))]) (st' := []) (M' := M0) rfl ?_
  exact Ev.forget (mLe.kp (mLe.kp (mLe.kp (mLe.kp mLe.nl)))) (e_X12_fullOf_l4  h hk)
/-- WakeTowerModel.laysPlaces(III)V: 312, W -/
theorem kc_312 : mKc 312 = k_X12_laysPlaces := rfl
def f_X12_laysPlaces_83 (l1 : Int32) (l2 : Int32) (l3 : Int32) (l4 : Int32) (l5 : Int32) (s1 : Int32) (s2 : Int32) (M0 : mM) : Option (((Unit × mM) ⊕ (Int32 × mM)) ⊕ (Int32 × mM)) :=
  gd (mIn s1 3072) (wr (mst M0 230 (ix s1) s2) (fun M1 => some (.inr ((l5 + (1 : Int32)), M1))))
set_option maxRecDepth 8000 in
theorem e_X12_laysPlaces_83 {l1 : Int32} {l2 : Int32} {l3 : Int32} {l4 : Int32} {l5 : Int32} {s1 : Int32} {s2 : Int32} {M0 : mM} {R : mZ} {out : (((Unit × mM) ⊕ (Int32 × mM)) ⊕ (Int32 × mM))}  (h : f_X12_laysPlaces_83 l1 l2 l3 l4 l5 s1 s2 M0 = some out) (hk : (∀ s' : Int32 × mM, out = .inr s' → Ev (8) 312 8 [some (.ref 215), some (.int l1), some (.int l2), some (.int l3), some (.int l4), some (.int s'.1), none, none, none] [] (s'.2) R) ∧ (∀ e2 : ((Unit × mM) ⊕ (Int32 × mM)), out = .inl e2 → (∀ s' : Int32 × mM, e2 = .inr s' → Ev (8) 312 4 [some (.ref 215), some (.int l1), some (.int l2), some (.int l3), some (.int s'.1), none, none, none, none] [] (s'.2) R) ∧ (∀ e1 : (Unit × mM), e2 = .inl e1 → R = emW eU e1))) : Ev (8) 312 83 [some (.ref 215), some (.int l1), some (.int l2), some (.int l3), some (.int l4), some (.int l5), none, none, none] [.int s2, .int s1, .ref 230] M0 R := by
  unfold f_X12_laysPlaces_83 at h
  obtain ⟨hg2, h⟩ := o_gd h
  obtain ⟨M1, hM1, h⟩ := o_wr h
  refine ev_is kc_312 rfl rfl hg2 hM1 ?_
  refine ev_go kc_312 2 (i' := 8) (L' := [some (.ref 215), some (.int l1), some (.int l2), some (.int l3), some (.int l4), some (.int (l5 + (1 : Int32))), none, none, none]) (st' := []) (M' := M1) rfl ?_
  obtain rfl := Option.some.inj h
  exact Ev.forget (mLe.kp (mLe.kp (mLe.kp (mLe.kp (mLe.kp (mLe.kp (mLe.sk (mLe.sk (mLe.sk mLe.nl))))))))) (hk.1 ((l5 + (1 : Int32)), M1) rfl)
def f_X12_laysPlaces_66 (l1 : Int32) (l2 : Int32) (l3 : Int32) (l4 : Int32) (l5 : Int32) (l6 : Int32) (l7 : Int32) (M0 : mM) : Option (((Unit × mM) ⊕ (Int32 × mM)) ⊕ (Int32 × mM)) :=
  bif decide (l6 = 0) then (f_X12_laysPlaces_83 l1 l2 l3 l4 l5 (((256 : Int32) * l4) + l5) (1000000 : Int32) M0) else (f_X12_laysPlaces_83 l1 l2 l3 l4 l5 (((256 : Int32) * l4) + l5) (mMin (1000000 : Int32) (l7 + (f_J6_bitCount_0f7a4 l5))) M0)
set_option maxRecDepth 8000 in
theorem e_X12_laysPlaces_66 {l1 : Int32} {l2 : Int32} {l3 : Int32} {l4 : Int32} {l5 : Int32} {l6 : Int32} {l7 : Int32} {M0 : mM} {R : mZ} {out : (((Unit × mM) ⊕ (Int32 × mM)) ⊕ (Int32 × mM))}  (h : f_X12_laysPlaces_66 l1 l2 l3 l4 l5 l6 l7 M0 = some out) (hk : (∀ s' : Int32 × mM, out = .inr s' → Ev (8) 312 8 [some (.ref 215), some (.int l1), some (.int l2), some (.int l3), some (.int l4), some (.int s'.1), none, none, none] [] (s'.2) R) ∧ (∀ e2 : ((Unit × mM) ⊕ (Int32 × mM)), out = .inl e2 → (∀ s' : Int32 × mM, e2 = .inr s' → Ev (8) 312 4 [some (.ref 215), some (.int l1), some (.int l2), some (.int l3), some (.int s'.1), none, none, none, none] [] (s'.2) R) ∧ (∀ e1 : (Unit × mM), e2 = .inl e1 → R = emW eU e1))) : Ev (8) 312 66 [some (.ref 215), some (.int l1), some (.int l2), some (.int l3), some (.int l4), some (.int l5), some (.int l6), some (.int l7), none] [] M0 R := by
  unfold f_X12_laysPlaces_66 at h
  rcases o_bif h with ⟨hb3, h⟩ | ⟨hb3, h⟩
  · refine ev_goT kc_312 9 (t := 82) (e := 75) (L' := [some (.ref 215), some (.int l1), some (.int l2), some (.int l3), some (.int l4), some (.int l5), some (.int l6), some (.int l7), none]) (st' := [.int (((256 : Int32) * l4) + l5), .ref 230]) rfl hb3 ?_
    refine ev_go kc_312 1 (i' := 83) (L' := [some (.ref 215), some (.int l1), some (.int l2), some (.int l3), some (.int l4), some (.int l5), some (.int l6), some (.int l7), none]) (st' := [.int (1000000 : Int32), .int (((256 : Int32) * l4) + l5), .ref 230]) (M' := M0) rfl ?_
    exact Ev.forget (mLe.kp (mLe.kp (mLe.kp (mLe.kp (mLe.kp (mLe.kp (mLe.sk (mLe.sk (mLe.sk mLe.nl))))))))) (e_X12_laysPlaces_83  h hk)
  · refine ev_goF kc_312 9 (t := 82) (e := 75) (L' := [some (.ref 215), some (.int l1), some (.int l2), some (.int l3), some (.int l4), some (.int l5), some (.int l6), some (.int l7), none]) (st' := [.int (((256 : Int32) * l4) + l5), .ref 230]) rfl hb3 ?_
    refine ev_go kc_312 3 (i' := 78) (L' := [some (.ref 215), some (.int l1), some (.int l2), some (.int l3), some (.int l4), some (.int l5), some (.int l6), some (.int l7), none]) (st' := [.int l5, .int l7, .int (1000000 : Int32), .int (((256 : Int32) * l4) + l5), .ref 230]) (M' := M0) rfl ?_
    refine ev_cl0 (ins := .invokestatic 100) kc_312 rfl rfl (a := 10) (as := [.int l5]) (rest := [.int l7, .int (1000000 : Int32), .int (((256 : Int32) * l4) + l5), .ref 230]) rfl rfl (Cs.deep (c_J6_bitCount_0f7a4 (M0 := M0)) (by decide)) ?_
    refine ev_go kc_312 1 (i' := 80) (L' := [some (.ref 215), some (.int l1), some (.int l2), some (.int l3), some (.int l4), some (.int l5), some (.int l6), some (.int l7), none]) (st' := [.int (l7 + (f_J6_bitCount_0f7a4 l5)), .int (1000000 : Int32), .int (((256 : Int32) * l4) + l5), .ref 230]) (M' := M0) rfl ?_
    refine ev_pm kc_312 rfl rfl rfl rfl (as := [.int (1000000 : Int32), .int (l7 + (f_J6_bitCount_0f7a4 l5))]) (rest := [.int (((256 : Int32) * l4) + l5), .ref 230]) rfl rfl rfl (v := some (mMin (1000000 : Int32) (l7 + (f_J6_bitCount_0f7a4 l5)))) rfl ?_
    refine ev_go kc_312 1 (i' := 83) (L' := [some (.ref 215), some (.int l1), some (.int l2), some (.int l3), some (.int l4), some (.int l5), some (.int l6), some (.int l7), none]) (st' := [.int (mMin (1000000 : Int32) (l7 + (f_J6_bitCount_0f7a4 l5))), .int (((256 : Int32) * l4) + l5), .ref 230]) (M' := M0) rfl ?_
    exact Ev.forget (mLe.kp (mLe.kp (mLe.kp (mLe.kp (mLe.kp (mLe.kp (mLe.sk (mLe.sk (mLe.sk mLe.nl))))))))) (e_X12_laysPlaces_83  h hk)
def f_X12_laysPlaces_36 (l1 : Int32) (l2 : Int32) (l3 : Int32) (l4 : Int32) (l5 : Int32) (l6 : Int32) (l7 : Int32) (l8 : Int32) (M0 : mM) : Option ((((Unit × mM) ⊕ (Int32 × mM)) ⊕ (Int32 × mM)) ⊕ (Int32 × Int32)) :=
  b1 (f_X12_everybody M0) (fun v5 => bif decide (v5 < l8) then (b1 (f_X12_laysPlaces_66 l1 l2 l3 l4 l5 l6 l7 M0) (fun r7 => some (.inl r7))) else (bif decide (l6 = 0) then (b1 (f_X12_laysPlaces_66 l1 l2 l3 l4 l5 l6 l7 M0) (fun r9 => some (.inl r9))) else (bif decide ((l1 - (1 : Int32)) ≤ l4) then (b1 (f_X12_laysPlaces_66 l1 l2 l3 l4 l5 l6 l7 M0) (fun r11 => some (.inl r11))) else (bif decide (¬ (l8 &&& l5) = 0) then (some (.inr (l7, (l8 + (1 : Int32))))) else (gd (mIn (((256 : Int32) * (l4 + (1 : Int32))) + l8) 3072) (some (.inr ((mMin l7 (M0 230 (ix (((256 : Int32) * (l4 + (1 : Int32))) + l8)))), (l8 + (1 : Int32))))))))))
set_option maxRecDepth 8000 in
theorem e_X12_laysPlaces_36 {l1 : Int32} {l2 : Int32} {l3 : Int32} {l4 : Int32} {l5 : Int32} {l6 : Int32} {l7 : Int32} {l8 : Int32} {M0 : mM} {R : mZ} {out : ((((Unit × mM) ⊕ (Int32 × mM)) ⊕ (Int32 × mM)) ⊕ (Int32 × Int32))}  (h : f_X12_laysPlaces_36 l1 l2 l3 l4 l5 l6 l7 l8 M0 = some out) (hk : (∀ s' : Int32 × Int32, out = .inr s' → Ev (8) 312 36 [some (.ref 215), some (.int l1), some (.int l2), some (.int l3), some (.int l4), some (.int l5), some (.int l6), some (.int s'.1), some (.int s'.2)] [] M0 R) ∧ (∀ e3 : (((Unit × mM) ⊕ (Int32 × mM)) ⊕ (Int32 × mM)), out = .inl e3 → (∀ s' : Int32 × mM, e3 = .inr s' → Ev (8) 312 8 [some (.ref 215), some (.int l1), some (.int l2), some (.int l3), some (.int l4), some (.int s'.1), none, none, none] [] (s'.2) R) ∧ (∀ e2 : ((Unit × mM) ⊕ (Int32 × mM)), e3 = .inl e2 → (∀ s' : Int32 × mM, e2 = .inr s' → Ev (8) 312 4 [some (.ref 215), some (.int l1), some (.int l2), some (.int l3), some (.int s'.1), none, none, none, none] [] (s'.2) R) ∧ (∀ e1 : (Unit × mM), e2 = .inl e1 → R = emW eU e1)))) : Ev (8) 312 36 [some (.ref 215), some (.int l1), some (.int l2), some (.int l3), some (.int l4), some (.int l5), some (.int l6), some (.int l7), some (.int l8)] [] M0 R := by
  unfold f_X12_laysPlaces_36 at h
  refine ev_go kc_312 2 (i' := 38) (L' := [some (.ref 215), some (.int l1), some (.int l2), some (.int l3), some (.int l4), some (.int l5), some (.int l6), some (.int l7), some (.int l8)]) (st' := [.ref 215, .int l8]) (M' := M0) rfl ?_
  obtain ⟨v5, hc5, h⟩ := o_b1 h
  refine ev_cl0 (ins := .invokevirtual 369) kc_312 rfl rfl (a := 191) (as := [.ref 215]) (rest := [.int l8]) rfl rfl (Cs.deep (c_X12_everybody (M0 := M0) hc5) (by decide)) ?_
  rcases o_bif h with ⟨hb6, h⟩ | ⟨hb6, h⟩
  · refine ev_goT kc_312 1 (t := 66) (e := 40) (L' := [some (.ref 215), some (.int l1), some (.int l2), some (.int l3), some (.int l4), some (.int l5), some (.int l6), some (.int l7), some (.int l8)]) (st' := []) rfl hb6 ?_
    obtain ⟨r7, hr7, h⟩ := o_b1 h
    obtain rfl := Option.some.inj h
    exact Ev.forget (mLe.kp (mLe.kp (mLe.kp (mLe.kp (mLe.kp (mLe.kp (mLe.kp (mLe.kp (mLe.sk mLe.nl))))))))) (e_X12_laysPlaces_66  hr7 (hk.2 _ rfl))
  · refine ev_goF kc_312 1 (t := 66) (e := 40) (L' := [some (.ref 215), some (.int l1), some (.int l2), some (.int l3), some (.int l4), some (.int l5), some (.int l6), some (.int l7), some (.int l8)]) (st' := []) rfl hb6 ?_
    rcases o_bif h with ⟨hb8, h⟩ | ⟨hb8, h⟩
    · refine ev_goT kc_312 2 (t := 66) (e := 42) (L' := [some (.ref 215), some (.int l1), some (.int l2), some (.int l3), some (.int l4), some (.int l5), some (.int l6), some (.int l7), some (.int l8)]) (st' := []) rfl hb8 ?_
      obtain ⟨r9, hr9, h⟩ := o_b1 h
      obtain rfl := Option.some.inj h
      exact Ev.forget (mLe.kp (mLe.kp (mLe.kp (mLe.kp (mLe.kp (mLe.kp (mLe.kp (mLe.kp (mLe.sk mLe.nl))))))))) (e_X12_laysPlaces_66  hr9 (hk.2 _ rfl))
    · refine ev_goF kc_312 2 (t := 66) (e := 42) (L' := [some (.ref 215), some (.int l1), some (.int l2), some (.int l3), some (.int l4), some (.int l5), some (.int l6), some (.int l7), some (.int l8)]) (st' := []) rfl hb8 ?_
      rcases o_bif h with ⟨hb10, h⟩ | ⟨hb10, h⟩
      · refine ev_goT kc_312 5 (t := 66) (e := 47) (L' := [some (.ref 215), some (.int l1), some (.int l2), some (.int l3), some (.int l4), some (.int l5), some (.int l6), some (.int l7), some (.int l8)]) (st' := []) rfl hb10 ?_
        obtain ⟨r11, hr11, h⟩ := o_b1 h
        obtain rfl := Option.some.inj h
        exact Ev.forget (mLe.kp (mLe.kp (mLe.kp (mLe.kp (mLe.kp (mLe.kp (mLe.kp (mLe.kp (mLe.sk mLe.nl))))))))) (e_X12_laysPlaces_66  hr11 (hk.2 _ rfl))
      · refine ev_goF kc_312 5 (t := 66) (e := 47) (L' := [some (.ref 215), some (.int l1), some (.int l2), some (.int l3), some (.int l4), some (.int l5), some (.int l6), some (.int l7), some (.int l8)]) (st' := []) rfl hb10 ?_
        rcases o_bif h with ⟨hb12, h⟩ | ⟨hb12, h⟩
        · refine ev_goT kc_312 4 (t := 64) (e := 51) (L' := [some (.ref 215), some (.int l1), some (.int l2), some (.int l3), some (.int l4), some (.int l5), some (.int l6), some (.int l7), some (.int l8)]) (st' := []) rfl hb12 ?_
          refine ev_go kc_312 2 (i' := 36) (L' := [some (.ref 215), some (.int l1), some (.int l2), some (.int l3), some (.int l4), some (.int l5), some (.int l6), some (.int l7), some (.int (l8 + (1 : Int32)))]) (st' := []) (M' := M0) rfl ?_
          obtain rfl := Option.some.inj h
          exact Ev.forget (mLe.kp (mLe.kp (mLe.kp (mLe.kp (mLe.kp (mLe.kp (mLe.kp (mLe.kp (mLe.kp mLe.nl))))))))) (hk.1 (l7, (l8 + (1 : Int32))) rfl)
        · refine ev_goF kc_312 4 (t := 64) (e := 51) (L' := [some (.ref 215), some (.int l1), some (.int l2), some (.int l3), some (.int l4), some (.int l5), some (.int l6), some (.int l7), some (.int l8)]) (st' := []) rfl hb12 ?_
          refine ev_go kc_312 10 (i' := 61) (L' := [some (.ref 215), some (.int l1), some (.int l2), some (.int l3), some (.int l4), some (.int l5), some (.int l6), some (.int l7), some (.int l8)]) (st' := [.int (((256 : Int32) * (l4 + (1 : Int32))) + l8), .ref 230, .int l7]) (M' := M0) rfl ?_
          obtain ⟨hg13, h⟩ := o_gd h
          refine ev_ia kc_312 rfl rfl hg13 ?_
          refine ev_pm kc_312 rfl rfl rfl rfl (as := [.int l7, .int (M0 230 (ix (((256 : Int32) * (l4 + (1 : Int32))) + l8)))]) (rest := []) rfl rfl rfl (v := some (mMin l7 (M0 230 (ix (((256 : Int32) * (l4 + (1 : Int32))) + l8))))) rfl ?_
          refine ev_go kc_312 3 (i' := 36) (L' := [some (.ref 215), some (.int l1), some (.int l2), some (.int l3), some (.int l4), some (.int l5), some (.int l6), some (.int (mMin l7 (M0 230 (ix (((256 : Int32) * (l4 + (1 : Int32))) + l8))))), some (.int (l8 + (1 : Int32)))]) (st' := []) (M' := M0) rfl ?_
          obtain rfl := Option.some.inj h
          exact Ev.forget (mLe.kp (mLe.kp (mLe.kp (mLe.kp (mLe.kp (mLe.kp (mLe.kp (mLe.kp (mLe.kp mLe.nl))))))))) (hk.1 ((mMin l7 (M0 230 (ix (((256 : Int32) * (l4 + (1 : Int32))) + l8)))), (l8 + (1 : Int32))) rfl)
def f_X12_laysPlaces_l36 (l1 : Int32) (l2 : Int32) (l3 : Int32) (l4 : Int32) (l5 : Int32) (l6 : Int32) (l7 : Int32) (l8 : Int32) (M0 : mM) : Option (((Unit × mM) ⊕ (Int32 × mM)) ⊕ (Int32 × mM)) :=
  wh 100000 (fun s : Int32 × Int32 => f_X12_laysPlaces_36 l1 l2 l3 l4 l5 l6 s.1 s.2 M0) (l7, l8)
theorem e_X12_laysPlaces_l36 {l1 : Int32} {l2 : Int32} {l3 : Int32} {l4 : Int32} {l5 : Int32} {l6 : Int32} {l7 : Int32} {l8 : Int32} {M0 : mM} {R : mZ} {out : (((Unit × mM) ⊕ (Int32 × mM)) ⊕ (Int32 × mM))}  (h : f_X12_laysPlaces_l36 l1 l2 l3 l4 l5 l6 l7 l8 M0 = some out) (hk : (∀ s' : Int32 × mM, out = .inr s' → Ev (8) 312 8 [some (.ref 215), some (.int l1), some (.int l2), some (.int l3), some (.int l4), some (.int s'.1), none, none, none] [] (s'.2) R) ∧ (∀ e2 : ((Unit × mM) ⊕ (Int32 × mM)), out = .inl e2 → (∀ s' : Int32 × mM, e2 = .inr s' → Ev (8) 312 4 [some (.ref 215), some (.int l1), some (.int l2), some (.int l3), some (.int s'.1), none, none, none, none] [] (s'.2) R) ∧ (∀ e1 : (Unit × mM), e2 = .inl e1 → R = emW eU e1))) : Ev (8) 312 36 [some (.ref 215), some (.int l1), some (.int l2), some (.int l3), some (.int l4), some (.int l5), some (.int l6), some (.int l7), some (.int l8)] [] M0 R := by
  unfold f_X12_laysPlaces_l36 at h
  exact wh_ev (P := fun s : Int32 × Int32 => Ev (8) 312 36 [some (.ref 215), some (.int l1), some (.int l2), some (.int l3), some (.int l4), some (.int l5), some (.int l6), some (.int s.1), some (.int s.2)] [] M0 R) (Q := fun e : (((Unit × mM) ⊕ (Int32 × mM)) ⊕ (Int32 × mM)) => (∀ s' : Int32 × mM, e = .inr s' → Ev (8) 312 8 [some (.ref 215), some (.int l1), some (.int l2), some (.int l3), some (.int l4), some (.int s'.1), none, none, none] [] (s'.2) R) ∧ (∀ e2 : ((Unit × mM) ⊕ (Int32 × mM)), e = .inl e2 → (∀ s' : Int32 × mM, e2 = .inr s' → Ev (8) 312 4 [some (.ref 215), some (.int l1), some (.int l2), some (.int l3), some (.int s'.1), none, none, none, none] [] (s'.2) R) ∧ (∀ e1 : (Unit × mM), e2 = .inl e1 → R = emW eU e1))) (fun s o hb h1 h2 => e_X12_laysPlaces_36  hb ⟨h1, h2⟩) 100000 _ _ h hk
def f_X12_laysPlaces_24 (l1 : Int32) (l2 : Int32) (l3 : Int32) (l4 : Int32) (l5 : Int32) (s0 : Bool) (M0 : mM) : Option (((Unit × mM) ⊕ (Int32 × mM)) ⊕ (Int32 × mM)) :=
  bif decide (¬ l4 = (l1 - (1 : Int32))) then (f_X12_laysPlaces_l36 l1 l2 l3 l4 l5 (mB s0) (1000000 : Int32) (0 : Int32) M0) else (f_X12_laysPlaces_l36 l1 l2 l3 l4 l5 (mB s0) (0 : Int32) (0 : Int32) M0)
set_option maxRecDepth 8000 in
theorem e_X12_laysPlaces_24 {l1 : Int32} {l2 : Int32} {l3 : Int32} {l4 : Int32} {l5 : Int32} {s0 : Bool} {M0 : mM} {R : mZ} {out : (((Unit × mM) ⊕ (Int32 × mM)) ⊕ (Int32 × mM))}  (h : f_X12_laysPlaces_24 l1 l2 l3 l4 l5 s0 M0 = some out) (hk : (∀ s' : Int32 × mM, out = .inr s' → Ev (8) 312 8 [some (.ref 215), some (.int l1), some (.int l2), some (.int l3), some (.int l4), some (.int s'.1), none, none, none] [] (s'.2) R) ∧ (∀ e2 : ((Unit × mM) ⊕ (Int32 × mM)), out = .inl e2 → (∀ s' : Int32 × mM, e2 = .inr s' → Ev (8) 312 4 [some (.ref 215), some (.int l1), some (.int l2), some (.int l3), some (.int s'.1), none, none, none, none] [] (s'.2) R) ∧ (∀ e1 : (Unit × mM), e2 = .inl e1 → R = emW eU e1))) : Ev (8) 312 24 [some (.ref 215), some (.int l1), some (.int l2), some (.int l3), some (.int l4), some (.int l5), none, none, none] [.int (mB s0)] M0 R := by
  unfold f_X12_laysPlaces_24 at h
  rcases o_bif h with ⟨hb14, h⟩ | ⟨hb14, h⟩
  · refine ev_goT kc_312 6 (t := 32) (e := 30) (L' := [some (.ref 215), some (.int l1), some (.int l2), some (.int l3), some (.int l4), some (.int l5), some (.int (mB s0)), none, none]) (st' := []) rfl hb14 ?_
    refine ev_go kc_312 4 (i' := 36) (L' := [some (.ref 215), some (.int l1), some (.int l2), some (.int l3), some (.int l4), some (.int l5), some (.int (mB s0)), some (.int (1000000 : Int32)), some (.int (0 : Int32))]) (st' := []) (M' := M0) rfl ?_
    exact Ev.forget (mLe.kp (mLe.kp (mLe.kp (mLe.kp (mLe.kp (mLe.kp (mLe.kp (mLe.kp (mLe.kp mLe.nl))))))))) (e_X12_laysPlaces_l36  h hk)
  · refine ev_goF kc_312 6 (t := 32) (e := 30) (L' := [some (.ref 215), some (.int l1), some (.int l2), some (.int l3), some (.int l4), some (.int l5), some (.int (mB s0)), none, none]) (st' := []) rfl hb14 ?_
    refine ev_go kc_312 5 (i' := 36) (L' := [some (.ref 215), some (.int l1), some (.int l2), some (.int l3), some (.int l4), some (.int l5), some (.int (mB s0)), some (.int (0 : Int32)), some (.int (0 : Int32))]) (st' := []) (M' := M0) rfl ?_
    exact Ev.forget (mLe.kp (mLe.kp (mLe.kp (mLe.kp (mLe.kp (mLe.kp (mLe.kp (mLe.kp (mLe.kp mLe.nl))))))))) (e_X12_laysPlaces_l36  h hk)
def f_X12_laysPlaces_23 (l1 : Int32) (l2 : Int32) (l3 : Int32) (l4 : Int32) (l5 : Int32) (M0 : mM) : Option (((Unit × mM) ⊕ (Int32 × mM)) ⊕ (Int32 × mM)) :=
  f_X12_laysPlaces_24 l1 l2 l3 l4 l5 false M0
set_option maxRecDepth 8000 in
theorem e_X12_laysPlaces_23 {l1 : Int32} {l2 : Int32} {l3 : Int32} {l4 : Int32} {l5 : Int32} {M0 : mM} {R : mZ} {out : (((Unit × mM) ⊕ (Int32 × mM)) ⊕ (Int32 × mM))}  (h : f_X12_laysPlaces_23 l1 l2 l3 l4 l5 M0 = some out) (hk : (∀ s' : Int32 × mM, out = .inr s' → Ev (8) 312 8 [some (.ref 215), some (.int l1), some (.int l2), some (.int l3), some (.int l4), some (.int s'.1), none, none, none] [] (s'.2) R) ∧ (∀ e2 : ((Unit × mM) ⊕ (Int32 × mM)), out = .inl e2 → (∀ s' : Int32 × mM, e2 = .inr s' → Ev (8) 312 4 [some (.ref 215), some (.int l1), some (.int l2), some (.int l3), some (.int s'.1), none, none, none, none] [] (s'.2) R) ∧ (∀ e1 : (Unit × mM), e2 = .inl e1 → R = emW eU e1))) : Ev (8) 312 23 [some (.ref 215), some (.int l1), some (.int l2), some (.int l3), some (.int l4), some (.int l5), none, none, none] [] M0 R := by
  unfold f_X12_laysPlaces_23 at h
  refine ev_go kc_312 1 (i' := 24) (L' := [some (.ref 215), some (.int l1), some (.int l2), some (.int l3), some (.int l4), some (.int l5), none, none, none]) (st' := [.int (0 : Int32)]) (M' := M0) rfl ?_
  exact Ev.forget (mLe.kp (mLe.kp (mLe.kp (mLe.kp (mLe.kp (mLe.kp (mLe.sk (mLe.sk (mLe.sk mLe.nl))))))))) (e_X12_laysPlaces_24  h hk)
def f_X12_laysPlaces_8 (l1 : Int32) (l2 : Int32) (l3 : Int32) (l4 : Int32) (l5 : Int32) (M0 : mM) : Option (((Unit × mM) ⊕ (Int32 × mM)) ⊕ (Int32 × mM)) :=
  b1 (f_X12_everybody M0) (fun v15 => bif decide (v15 < l5) then (some (.inl (.inr ((l4 + (-1 : Int32)), M0)))) else (bif decide (¬ (l5 &&& l3) = 0) then (f_X12_laysPlaces_23 l1 l2 l3 l4 l5 M0) else (b1 (f_X12_fullOf l5 M0) (fun v18 => bif decide (v18 < l2) then (f_X12_laysPlaces_23 l1 l2 l3 l4 l5 M0) else (f_X12_laysPlaces_24 l1 l2 l3 l4 l5 true M0)))))
set_option maxRecDepth 8000 in
theorem e_X12_laysPlaces_8 {l1 : Int32} {l2 : Int32} {l3 : Int32} {l4 : Int32} {l5 : Int32} {M0 : mM} {R : mZ} {out : (((Unit × mM) ⊕ (Int32 × mM)) ⊕ (Int32 × mM))}  (h : f_X12_laysPlaces_8 l1 l2 l3 l4 l5 M0 = some out) (hk : (∀ s' : Int32 × mM, out = .inr s' → Ev (8) 312 8 [some (.ref 215), some (.int l1), some (.int l2), some (.int l3), some (.int l4), some (.int s'.1), none, none, none] [] (s'.2) R) ∧ (∀ e2 : ((Unit × mM) ⊕ (Int32 × mM)), out = .inl e2 → (∀ s' : Int32 × mM, e2 = .inr s' → Ev (8) 312 4 [some (.ref 215), some (.int l1), some (.int l2), some (.int l3), some (.int s'.1), none, none, none, none] [] (s'.2) R) ∧ (∀ e1 : (Unit × mM), e2 = .inl e1 → R = emW eU e1))) : Ev (8) 312 8 [some (.ref 215), some (.int l1), some (.int l2), some (.int l3), some (.int l4), some (.int l5), none, none, none] [] M0 R := by
  unfold f_X12_laysPlaces_8 at h
  refine ev_go kc_312 2 (i' := 10) (L' := [some (.ref 215), some (.int l1), some (.int l2), some (.int l3), some (.int l4), some (.int l5), none, none, none]) (st' := [.ref 215, .int l5]) (M' := M0) rfl ?_
  obtain ⟨v15, hc15, h⟩ := o_b1 h
  refine ev_cl0 (ins := .invokevirtual 369) kc_312 rfl rfl (a := 191) (as := [.ref 215]) (rest := [.int l5]) rfl rfl (Cs.deep (c_X12_everybody (M0 := M0) hc15) (by decide)) ?_
  rcases o_bif h with ⟨hb16, h⟩ | ⟨hb16, h⟩
  · refine ev_goT kc_312 1 (t := 86) (e := 12) (L' := [some (.ref 215), some (.int l1), some (.int l2), some (.int l3), some (.int l4), some (.int l5), none, none, none]) (st' := []) rfl hb16 ?_
    refine ev_go kc_312 2 (i' := 4) (L' := [some (.ref 215), some (.int l1), some (.int l2), some (.int l3), some (.int (l4 + (-1 : Int32))), some (.int l5), none, none, none]) (st' := []) (M' := M0) rfl ?_
    obtain rfl := Option.some.inj h
    exact Ev.forget (mLe.kp (mLe.kp (mLe.kp (mLe.kp (mLe.kp (mLe.sk (mLe.sk (mLe.sk (mLe.sk mLe.nl))))))))) ((hk.2 _ rfl).1 ((l4 + (-1 : Int32)), M0) rfl)
  · refine ev_goF kc_312 1 (t := 86) (e := 12) (L' := [some (.ref 215), some (.int l1), some (.int l2), some (.int l3), some (.int l4), some (.int l5), none, none, none]) (st' := []) rfl hb16 ?_
    rcases o_bif h with ⟨hb17, h⟩ | ⟨hb17, h⟩
    · refine ev_goT kc_312 4 (t := 23) (e := 16) (L' := [some (.ref 215), some (.int l1), some (.int l2), some (.int l3), some (.int l4), some (.int l5), none, none, none]) (st' := []) rfl hb17 ?_
      exact Ev.forget (mLe.kp (mLe.kp (mLe.kp (mLe.kp (mLe.kp (mLe.kp (mLe.sk (mLe.sk (mLe.sk mLe.nl))))))))) (e_X12_laysPlaces_23  h hk)
    · refine ev_goF kc_312 4 (t := 23) (e := 16) (L' := [some (.ref 215), some (.int l1), some (.int l2), some (.int l3), some (.int l4), some (.int l5), none, none, none]) (st' := []) rfl hb17 ?_
      refine ev_go kc_312 2 (i' := 18) (L' := [some (.ref 215), some (.int l1), some (.int l2), some (.int l3), some (.int l4), some (.int l5), none, none, none]) (st' := [.int l5, .ref 215]) (M' := M0) rfl ?_
      obtain ⟨v18, hc18, h⟩ := o_b1 h
      refine ev_cl0 (ins := .invokevirtual 445) kc_312 rfl rfl (a := 311) (as := [.ref 215, .int l5]) (rest := []) rfl rfl (Cs.deep (c_X12_fullOf (M0 := M0) hc18) (by decide)) ?_
      rcases o_bif h with ⟨hb19, h⟩ | ⟨hb19, h⟩
      · refine ev_goT kc_312 2 (t := 23) (e := 21) (L' := [some (.ref 215), some (.int l1), some (.int l2), some (.int l3), some (.int l4), some (.int l5), none, none, none]) (st' := []) rfl hb19 ?_
        exact Ev.forget (mLe.kp (mLe.kp (mLe.kp (mLe.kp (mLe.kp (mLe.kp (mLe.sk (mLe.sk (mLe.sk mLe.nl))))))))) (e_X12_laysPlaces_23  h hk)
      · refine ev_goF kc_312 2 (t := 23) (e := 21) (L' := [some (.ref 215), some (.int l1), some (.int l2), some (.int l3), some (.int l4), some (.int l5), none, none, none]) (st' := []) rfl hb19 ?_
        refine ev_go kc_312 2 (i' := 24) (L' := [some (.ref 215), some (.int l1), some (.int l2), some (.int l3), some (.int l4), some (.int l5), none, none, none]) (st' := [.int (1 : Int32)]) (M' := M0) rfl ?_
        exact Ev.forget (mLe.kp (mLe.kp (mLe.kp (mLe.kp (mLe.kp (mLe.kp (mLe.sk (mLe.sk (mLe.sk mLe.nl))))))))) (e_X12_laysPlaces_24  h hk)
def f_X12_laysPlaces_l8 (l1 : Int32) (l2 : Int32) (l3 : Int32) (l4 : Int32) (l5 : Int32) (M0 : mM) : Option ((Unit × mM) ⊕ (Int32 × mM)) :=
  wh 100000 (fun s : Int32 × mM => f_X12_laysPlaces_8 l1 l2 l3 l4 s.1 s.2) (l5, M0)
theorem e_X12_laysPlaces_l8 {l1 : Int32} {l2 : Int32} {l3 : Int32} {l4 : Int32} {l5 : Int32} {M0 : mM} {R : mZ} {out : ((Unit × mM) ⊕ (Int32 × mM))}  (h : f_X12_laysPlaces_l8 l1 l2 l3 l4 l5 M0 = some out) (hk : (∀ s' : Int32 × mM, out = .inr s' → Ev (8) 312 4 [some (.ref 215), some (.int l1), some (.int l2), some (.int l3), some (.int s'.1), none, none, none, none] [] (s'.2) R) ∧ (∀ e1 : (Unit × mM), out = .inl e1 → R = emW eU e1)) : Ev (8) 312 8 [some (.ref 215), some (.int l1), some (.int l2), some (.int l3), some (.int l4), some (.int l5), none, none, none] [] M0 R := by
  unfold f_X12_laysPlaces_l8 at h
  exact wh_ev (P := fun s : Int32 × mM => Ev (8) 312 8 [some (.ref 215), some (.int l1), some (.int l2), some (.int l3), some (.int l4), some (.int s.1), none, none, none] [] s.2 R) (Q := fun e : ((Unit × mM) ⊕ (Int32 × mM)) => (∀ s' : Int32 × mM, e = .inr s' → Ev (8) 312 4 [some (.ref 215), some (.int l1), some (.int l2), some (.int l3), some (.int s'.1), none, none, none, none] [] (s'.2) R) ∧ (∀ e1 : (Unit × mM), e = .inl e1 → R = emW eU e1)) (fun s o hb h1 h2 => e_X12_laysPlaces_8  hb ⟨h1, h2⟩) 100000 _ _ h hk
def f_X12_laysPlaces_4 (l1 : Int32) (l2 : Int32) (l3 : Int32) (l4 : Int32) (M0 : mM) : Option ((Unit × mM) ⊕ (Int32 × mM)) :=
  bif decide (l4 < 0) then (some (.inl ((), M0))) else (f_X12_laysPlaces_l8 l1 l2 l3 l4 (0 : Int32) M0)
set_option maxRecDepth 8000 in
theorem e_X12_laysPlaces_4 {l1 : Int32} {l2 : Int32} {l3 : Int32} {l4 : Int32} {M0 : mM} {R : mZ} {out : ((Unit × mM) ⊕ (Int32 × mM))}  (h : f_X12_laysPlaces_4 l1 l2 l3 l4 M0 = some out) (hk : (∀ s' : Int32 × mM, out = .inr s' → Ev (8) 312 4 [some (.ref 215), some (.int l1), some (.int l2), some (.int l3), some (.int s'.1), none, none, none, none] [] (s'.2) R) ∧ (∀ e1 : (Unit × mM), out = .inl e1 → R = emW eU e1)) : Ev (8) 312 4 [some (.ref 215), some (.int l1), some (.int l2), some (.int l3), some (.int l4), none, none, none, none] [] M0 R := by
  unfold f_X12_laysPlaces_4 at h
  rcases o_bif h with ⟨hb20, h⟩ | ⟨hb20, h⟩
  · refine ev_goT kc_312 2 (t := 88) (e := 6) (L' := [some (.ref 215), some (.int l1), some (.int l2), some (.int l3), some (.int l4), none, none, none, none]) (st' := []) rfl hb20 ?_
    obtain rfl := Option.some.inj h
    rw [show _ from (hk.2 _ rfl)]
    exact ev_vret kc_312 rfl rfl rfl
  · refine ev_goF kc_312 2 (t := 88) (e := 6) (L' := [some (.ref 215), some (.int l1), some (.int l2), some (.int l3), some (.int l4), none, none, none, none]) (st' := []) rfl hb20 ?_
    refine ev_go kc_312 2 (i' := 8) (L' := [some (.ref 215), some (.int l1), some (.int l2), some (.int l3), some (.int l4), some (.int (0 : Int32)), none, none, none]) (st' := []) (M' := M0) rfl ?_
    exact Ev.forget (mLe.kp (mLe.kp (mLe.kp (mLe.kp (mLe.kp (mLe.kp (mLe.sk (mLe.sk (mLe.sk mLe.nl))))))))) (e_X12_laysPlaces_l8  h hk)
def f_X12_laysPlaces_l4 (l1 : Int32) (l2 : Int32) (l3 : Int32) (l4 : Int32) (M0 : mM) : Option (Unit × mM) :=
  wh 100000 (fun s : Int32 × mM => f_X12_laysPlaces_4 l1 l2 l3 s.1 s.2) (l4, M0)
theorem e_X12_laysPlaces_l4 {l1 : Int32} {l2 : Int32} {l3 : Int32} {l4 : Int32} {M0 : mM} {R : mZ} {out : (Unit × mM)}  (h : f_X12_laysPlaces_l4 l1 l2 l3 l4 M0 = some out) (hk : R = emW eU out) : Ev (8) 312 4 [some (.ref 215), some (.int l1), some (.int l2), some (.int l3), some (.int l4), none, none, none, none] [] M0 R := by
  unfold f_X12_laysPlaces_l4 at h
  exact wh_ev (P := fun s : Int32 × mM => Ev (8) 312 4 [some (.ref 215), some (.int l1), some (.int l2), some (.int l3), some (.int s.1), none, none, none, none] [] s.2 R) (Q := fun e : (Unit × mM) => R = emW eU e) (fun s o hb h1 h2 => e_X12_laysPlaces_4  hb ⟨h1, h2⟩) 100000 _ _ h hk
def f_X12_laysPlaces (p1 : Int32) (p2 : Int32) (p3 : Int32) (M0 : mM) : Option (Unit × mM) :=
  f_X12_laysPlaces_l4 p1 p2 p3 (p1 - (1 : Int32)) M0
set_option maxRecDepth 8000 in
theorem c_X12_laysPlaces {p1 : Int32} {p2 : Int32} {p3 : Int32} {M0 : mM} {out : (Unit × mM)} (h : f_X12_laysPlaces p1 p2 p3 M0 = some out) : Cs (8) 312 [.ref 215, .int p1, .int p2, .int p3] M0 (emW eU out) := by
  generalize hk : emW eU out = R
  replace hk := hk.symm
  unfold f_X12_laysPlaces at h
  show Ev (8) 312 0 [some (.ref 215), some (.int p1), some (.int p2), some (.int p3), none, none, none, none, none] [] M0 R
  refine ev_go kc_312 4 (i' := 4) (L' := [some (.ref 215), some (.int p1), some (.int p2), some (.int p3), some (.int (p1 - (1 : Int32))), none, none, none, none]) (st' := []) (M' := M0) rfl ?_
  exact Ev.forget (mLe.kp (mLe.kp (mLe.kp (mLe.kp (mLe.kp (mLe.sk (mLe.sk (mLe.sk (mLe.sk mLe.nl))))))))) (e_X12_laysPlaces_l4  h hk)
/-- WakeTowerModel.fewestPlaces()I: 313, R -/
theorem kc_313 : mKc 313 = k_X12_fewestPlaces := rfl
def f_X12_fewestPlaces_4 (l1 : Int32) (l2 : Int32) (M0 : mM) : Option (Int32 ⊕ (Int32 × Int32)) :=
  b1 (f_X12_everybody M0) (fun v1 => bif decide (v1 < l2) then (some (.inl l1)) else (gd (mIn l2 3072) (some (.inr ((mMin l1 (M0 230 (ix l2))), (l2 + (1 : Int32)))))))
set_option maxRecDepth 8000 in
theorem e_X12_fewestPlaces_4 {l1 : Int32} {l2 : Int32} {M0 : mM} {R : mZ} {out : (Int32 ⊕ (Int32 × Int32))}  (h : f_X12_fewestPlaces_4 l1 l2 M0 = some out) (hk : (∀ s' : Int32 × Int32, out = .inr s' → Ev (8) 313 4 [some (.ref 215), some (.int s'.1), some (.int s'.2)] [] M0 R) ∧ (∀ e1 : Int32, out = .inl e1 → R = emR eI M0 e1)) : Ev (8) 313 4 [some (.ref 215), some (.int l1), some (.int l2)] [] M0 R := by
  unfold f_X12_fewestPlaces_4 at h
  refine ev_go kc_313 2 (i' := 6) (L' := [some (.ref 215), some (.int l1), some (.int l2)]) (st' := [.ref 215, .int l2]) (M' := M0) rfl ?_
  obtain ⟨v1, hc1, h⟩ := o_b1 h
  refine ev_cl0 (ins := .invokevirtual 369) kc_313 rfl rfl (a := 191) (as := [.ref 215]) (rest := [.int l2]) rfl rfl (Cs.deep (c_X12_everybody (M0 := M0) hc1) (by decide)) ?_
  rcases o_bif h with ⟨hb2, h⟩ | ⟨hb2, h⟩
  · refine ev_goT kc_313 1 (t := 17) (e := 8) (L' := [some (.ref 215), some (.int l1), some (.int l2)]) (st' := []) rfl hb2 ?_
    refine ev_go kc_313 1 (i' := 18) (L' := [some (.ref 215), some (.int l1), some (.int l2)]) (st' := [.int l1]) (M' := M0) rfl ?_
    obtain rfl := Option.some.inj h
    rw [show _ from (hk.2 _ rfl)]
    exact ev_ret kc_313 rfl rfl rfl
  · refine ev_goF kc_313 1 (t := 17) (e := 8) (L' := [some (.ref 215), some (.int l1), some (.int l2)]) (st' := []) rfl hb2 ?_
    refine ev_go kc_313 4 (i' := 12) (L' := [some (.ref 215), some (.int l1), some (.int l2)]) (st' := [.int l2, .ref 230, .int l1]) (M' := M0) rfl ?_
    obtain ⟨hg3, h⟩ := o_gd h
    refine ev_ia kc_313 rfl rfl hg3 ?_
    refine ev_pm kc_313 rfl rfl rfl rfl (as := [.int l1, .int (M0 230 (ix l2))]) (rest := []) rfl rfl rfl (v := some (mMin l1 (M0 230 (ix l2)))) rfl ?_
    refine ev_go kc_313 3 (i' := 4) (L' := [some (.ref 215), some (.int (mMin l1 (M0 230 (ix l2)))), some (.int (l2 + (1 : Int32)))]) (st' := []) (M' := M0) rfl ?_
    obtain rfl := Option.some.inj h
    exact Ev.forget (mLe.kp (mLe.kp (mLe.kp mLe.nl))) (hk.1 ((mMin l1 (M0 230 (ix l2))), (l2 + (1 : Int32))) rfl)
def f_X12_fewestPlaces_l4 (l1 : Int32) (l2 : Int32) (M0 : mM) : Option Int32 :=
  wh 100000 (fun s : Int32 × Int32 => f_X12_fewestPlaces_4 s.1 s.2 M0) (l1, l2)
theorem e_X12_fewestPlaces_l4 {l1 : Int32} {l2 : Int32} {M0 : mM} {R : mZ} {out : Int32}  (h : f_X12_fewestPlaces_l4 l1 l2 M0 = some out) (hk : R = emR eI M0 out) : Ev (8) 313 4 [some (.ref 215), some (.int l1), some (.int l2)] [] M0 R := by
  unfold f_X12_fewestPlaces_l4 at h
  exact wh_ev (P := fun s : Int32 × Int32 => Ev (8) 313 4 [some (.ref 215), some (.int s.1), some (.int s.2)] [] M0 R) (Q := fun e : Int32 => R = emR eI M0 e) (fun s o hb h1 h2 => e_X12_fewestPlaces_4  hb ⟨h1, h2⟩) 100000 _ _ h hk
def f_X12_fewestPlaces  (M0 : mM) : Option Int32 :=
  f_X12_fewestPlaces_l4 (1000000 : Int32) (0 : Int32) M0
set_option maxRecDepth 8000 in
theorem c_X12_fewestPlaces  {M0 : mM} {out : Int32} (h : f_X12_fewestPlaces M0 = some out) : Cs (8) 313 [.ref 215] M0 (emR eI M0 out) := by
  generalize hk : emR eI M0 out = R
  replace hk := hk.symm
  unfold f_X12_fewestPlaces at h
  show Ev (8) 313 0 [some (.ref 215), none, none] [] M0 R
  refine ev_go kc_313 4 (i' := 4) (L' := [some (.ref 215), some (.int (1000000 : Int32)), some (.int (0 : Int32))]) (st' := []) (M' := M0) rfl ?_
  exact Ev.forget (mLe.kp (mLe.kp (mLe.kp mLe.nl))) (e_X12_fewestPlaces_l4  h hk)
/-- WakeTowerModel.roster(III)I: 314, W -/
theorem kc_314 : mKc 314 = k_X12_roster := rfl
def f_X12_roster_60 (l3 : Int32) (l4 : Int32) (l5 : Int32) (l6 : Int32) (l7 : Int32) (M0 : mM) : Option (((Int32 × mM) ⊕ (Int32 × Int32 × Int32 × Int32)) ⊕ (Int32)) :=
  bif decide (¬ (l5 &&& l6) = 0) then (some (.inr (l5 + (1 : Int32)))) else (gd (mIn (((256 : Int32) * l7) + l5) 3072) (bif decide ((M0 230 (ix (((256 : Int32) * l7) + l5))) = l4) then (some (.inl (.inr ((l4 - (f_J6_bitCount_0f7a4 l5)), l5, l5, (l7 + (1 : Int32)))))) else (some (.inr (l5 + (1 : Int32))))))
set_option maxRecDepth 8000 in
theorem e_X12_roster_60 {l3 : Int32} {l4 : Int32} {l5 : Int32} {l6 : Int32} {l7 : Int32} {M0 : mM} {R : mZ} {out : (((Int32 × mM) ⊕ (Int32 × Int32 × Int32 × Int32)) ⊕ (Int32))}  (h : f_X12_roster_60 l3 l4 l5 l6 l7 M0 = some out) (hk : (∀ s' : Int32, out = .inr s' → Ev (9) 314 60 [some (.ref 215), none, none, some (.int l3), some (.int l4), some (.int s'), some (.int l6), some (.int l7)] [] M0 R) ∧ (∀ e2 : ((Int32 × mM) ⊕ (Int32 × Int32 × Int32 × Int32)), out = .inl e2 → (∀ s' : Int32 × Int32 × Int32 × Int32, e2 = .inr s' → Ev (9) 314 55 [some (.ref 215), none, none, some (.int l3), some (.int s'.1), some (.int s'.2.1), some (.int s'.2.2.1), some (.int s'.2.2.2)] [] M0 R) ∧ (∀ e1 : (Int32 × mM), e2 = .inl e1 → R = emW eI e1))) : Ev (9) 314 60 [some (.ref 215), none, none, some (.int l3), some (.int l4), some (.int l5), some (.int l6), some (.int l7)] [] M0 R := by
  unfold f_X12_roster_60 at h
  rcases o_bif h with ⟨hb1, h⟩ | ⟨hb1, h⟩
  · refine ev_goT kc_314 4 (t := 74) (e := 64) (L' := [some (.ref 215), none, none, some (.int l3), some (.int l4), some (.int l5), some (.int l6), some (.int l7)]) (st' := []) rfl hb1 ?_
    refine ev_go kc_314 2 (i' := 60) (L' := [some (.ref 215), none, none, some (.int l3), some (.int l4), some (.int (l5 + (1 : Int32))), some (.int l6), some (.int l7)]) (st' := []) (M' := M0) rfl ?_
    obtain rfl := Option.some.inj h
    exact Ev.forget (mLe.kp (mLe.sk (mLe.sk (mLe.kp (mLe.kp (mLe.kp (mLe.kp (mLe.kp mLe.nl)))))))) (hk.1 (l5 + (1 : Int32)) rfl)
  · refine ev_goF kc_314 4 (t := 74) (e := 64) (L' := [some (.ref 215), none, none, some (.int l3), some (.int l4), some (.int l5), some (.int l6), some (.int l7)]) (st' := []) rfl hb1 ?_
    refine ev_go kc_314 7 (i' := 71) (L' := [some (.ref 215), none, none, some (.int l3), some (.int l4), some (.int l5), some (.int l6), some (.int l7)]) (st' := [.int (((256 : Int32) * l7) + l5), .ref 230]) (M' := M0) rfl ?_
    obtain ⟨hg2, h⟩ := o_gd h
    refine ev_ia kc_314 rfl rfl hg2 ?_
    rcases o_bif h with ⟨hb3, h⟩ | ⟨hb3, h⟩
    · refine ev_goT kc_314 2 (t := 76) (e := 74) (L' := [some (.ref 215), none, none, some (.int l3), some (.int l4), some (.int l5), some (.int l6), some (.int l7)]) (st' := []) rfl hb3 ?_
      refine ev_go kc_314 2 (i' := 78) (L' := [some (.ref 215), none, none, some (.int l3), some (.int l4), some (.int l5), some (.int l6), some (.int l7)]) (st' := [.int l5, .int l4]) (M' := M0) rfl ?_
      refine ev_cl0 (ins := .invokestatic 100) kc_314 rfl rfl (a := 10) (as := [.int l5]) (rest := [.int l4]) rfl rfl (Cs.deep (c_J6_bitCount_0f7a4 (M0 := M0)) (by decide)) ?_
      refine ev_go kc_314 6 (i' := 55) (L' := [some (.ref 215), none, none, some (.int l3), some (.int (l4 - (f_J6_bitCount_0f7a4 l5))), some (.int l5), some (.int l5), some (.int (l7 + (1 : Int32)))]) (st' := []) (M' := M0) rfl ?_
      obtain rfl := Option.some.inj h
      exact Ev.forget (mLe.kp (mLe.sk (mLe.sk (mLe.kp (mLe.kp (mLe.kp (mLe.kp (mLe.kp mLe.nl)))))))) ((hk.2 _ rfl).1 ((l4 - (f_J6_bitCount_0f7a4 l5)), l5, l5, (l7 + (1 : Int32))) rfl)
    · refine ev_goF kc_314 2 (t := 76) (e := 74) (L' := [some (.ref 215), none, none, some (.int l3), some (.int l4), some (.int l5), some (.int l6), some (.int l7)]) (st' := []) rfl hb3 ?_
      refine ev_go kc_314 2 (i' := 60) (L' := [some (.ref 215), none, none, some (.int l3), some (.int l4), some (.int (l5 + (1 : Int32))), some (.int l6), some (.int l7)]) (st' := []) (M' := M0) rfl ?_
      obtain rfl := Option.some.inj h
      exact Ev.forget (mLe.kp (mLe.sk (mLe.sk (mLe.kp (mLe.kp (mLe.kp (mLe.kp (mLe.kp mLe.nl)))))))) (hk.1 (l5 + (1 : Int32)) rfl)
def f_X12_roster_l60 (l3 : Int32) (l4 : Int32) (l6 : Int32) (l7 : Int32) (l5 : Int32) (M0 : mM) : Option ((Int32 × mM) ⊕ (Int32 × Int32 × Int32 × Int32)) :=
  wh 100000 (fun s : Int32 => f_X12_roster_60 l3 l4 s l6 l7 M0) l5
theorem e_X12_roster_l60 {l3 : Int32} {l4 : Int32} {l5 : Int32} {l6 : Int32} {l7 : Int32} {M0 : mM} {R : mZ} {out : ((Int32 × mM) ⊕ (Int32 × Int32 × Int32 × Int32))}  (h : f_X12_roster_l60 l3 l4 l6 l7 l5 M0 = some out) (hk : (∀ s' : Int32 × Int32 × Int32 × Int32, out = .inr s' → Ev (9) 314 55 [some (.ref 215), none, none, some (.int l3), some (.int s'.1), some (.int s'.2.1), some (.int s'.2.2.1), some (.int s'.2.2.2)] [] M0 R) ∧ (∀ e1 : (Int32 × mM), out = .inl e1 → R = emW eI e1)) : Ev (9) 314 60 [some (.ref 215), none, none, some (.int l3), some (.int l4), some (.int l5), some (.int l6), some (.int l7)] [] M0 R := by
  unfold f_X12_roster_l60 at h
  exact wh_ev (P := fun s : Int32 => Ev (9) 314 60 [some (.ref 215), none, none, some (.int l3), some (.int l4), some (.int s), some (.int l6), some (.int l7)] [] M0 R) (Q := fun e : ((Int32 × mM) ⊕ (Int32 × Int32 × Int32 × Int32)) => (∀ s' : Int32 × Int32 × Int32 × Int32, e = .inr s' → Ev (9) 314 55 [some (.ref 215), none, none, some (.int l3), some (.int s'.1), some (.int s'.2.1), some (.int s'.2.2.1), some (.int s'.2.2.2)] [] M0 R) ∧ (∀ e1 : (Int32 × mM), e = .inl e1 → R = emW eI e1)) (fun s o hb h1 h2 => e_X12_roster_60  hb ⟨h1, h2⟩) 100000 _ _ h hk
def f_X12_roster_55 (l3 : Int32) (l4 : Int32) (l5 : Int32) (l6 : Int32) (l7 : Int32) (M0 : mM) : Option ((Int32 × mM) ⊕ (Int32 × Int32 × Int32 × Int32)) :=
  bif decide (l3 < l7) then (some (.inl (l5, M0))) else (f_X12_roster_l60 l3 l4 l6 l7 (0 : Int32) M0)
set_option maxRecDepth 8000 in
theorem e_X12_roster_55 {l3 : Int32} {l4 : Int32} {l5 : Int32} {l6 : Int32} {l7 : Int32} {M0 : mM} {R : mZ} {out : ((Int32 × mM) ⊕ (Int32 × Int32 × Int32 × Int32))}  (h : f_X12_roster_55 l3 l4 l5 l6 l7 M0 = some out) (hk : (∀ s' : Int32 × Int32 × Int32 × Int32, out = .inr s' → Ev (9) 314 55 [some (.ref 215), none, none, some (.int l3), some (.int s'.1), some (.int s'.2.1), some (.int s'.2.2.1), some (.int s'.2.2.2)] [] M0 R) ∧ (∀ e1 : (Int32 × mM), out = .inl e1 → R = emW eI e1)) : Ev (9) 314 55 [some (.ref 215), none, none, some (.int l3), some (.int l4), some (.int l5), some (.int l6), some (.int l7)] [] M0 R := by
  unfold f_X12_roster_55 at h
  rcases o_bif h with ⟨hb5, h⟩ | ⟨hb5, h⟩
  · refine ev_goT kc_314 3 (t := 85) (e := 58) (L' := [some (.ref 215), none, none, some (.int l3), some (.int l4), some (.int l5), some (.int l6), some (.int l7)]) (st' := []) rfl hb5 ?_
    refine ev_go kc_314 1 (i' := 86) (L' := [some (.ref 215), none, none, some (.int l3), some (.int l4), some (.int l5), some (.int l6), some (.int l7)]) (st' := [.int l5]) (M' := M0) rfl ?_
    obtain rfl := Option.some.inj h
    rw [show _ from (hk.2 _ rfl)]
    exact ev_ret kc_314 rfl rfl rfl
  · refine ev_goF kc_314 3 (t := 85) (e := 58) (L' := [some (.ref 215), none, none, some (.int l3), some (.int l4), some (.int l5), some (.int l6), some (.int l7)]) (st' := []) rfl hb5 ?_
    refine ev_go kc_314 2 (i' := 60) (L' := [some (.ref 215), none, none, some (.int l3), some (.int l4), some (.int (0 : Int32)), some (.int l6), some (.int l7)]) (st' := []) (M' := M0) rfl ?_
    exact Ev.forget (mLe.kp (mLe.sk (mLe.sk (mLe.kp (mLe.kp (mLe.kp (mLe.kp (mLe.kp mLe.nl)))))))) (e_X12_roster_l60  h hk)
def f_X12_roster_l55 (l3 : Int32) (l4 : Int32) (l5 : Int32) (l6 : Int32) (l7 : Int32) (M0 : mM) : Option (Int32 × mM) :=
  wh 100000 (fun s : Int32 × Int32 × Int32 × Int32 => f_X12_roster_55 l3 s.1 s.2.1 s.2.2.1 s.2.2.2 M0) (l4, l5, l6, l7)
theorem e_X12_roster_l55 {l3 : Int32} {l4 : Int32} {l5 : Int32} {l6 : Int32} {l7 : Int32} {M0 : mM} {R : mZ} {out : (Int32 × mM)}  (h : f_X12_roster_l55 l3 l4 l5 l6 l7 M0 = some out) (hk : R = emW eI out) : Ev (9) 314 55 [some (.ref 215), none, none, some (.int l3), some (.int l4), some (.int l5), some (.int l6), some (.int l7)] [] M0 R := by
  unfold f_X12_roster_l55 at h
  exact wh_ev (P := fun s : Int32 × Int32 × Int32 × Int32 => Ev (9) 314 55 [some (.ref 215), none, none, some (.int l3), some (.int s.1), some (.int s.2.1), some (.int s.2.2.1), some (.int s.2.2.2)] [] M0 R) (Q := fun e : (Int32 × mM) => R = emW eI e) (fun s o hb h1 h2 => e_X12_roster_55  hb ⟨h1, h2⟩) 100000 _ _ h hk
def f_X12_roster_17 (l1 : Int32) (l2 : Int32) (l3 : Int32) (s1 : Bool) (M0 : mM) : Option (Int32 × mM) :=
  b2 (f_X12_throwsIf s1 (1 : Int32) M0) (fun v6 M6 => bif v6 then (some ((0 : Int32), M6)) else (b2 (f_X12_laysPlaces l1 l2 (0 : Int32) M6) (fun v8 M8 => b1 (f_X12_fewestPlaces M8) (fun v9 => bif decide (¬ v9 = (1000000 : Int32)) then (bif decide (¬ l3 = (-1 : Int32)) then (bif (f_X12_in l3 (0 : Int32) (l1 - (1 : Int32))) then (f_X12_roster_l55 l3 v9 (0 : Int32) (0 : Int32) (0 : Int32) M8) else (some ((-1 : Int32), M8))) else (some (v9, M8))) else (some ((-1 : Int32), M8))))))
set_option maxRecDepth 8000 in
theorem e_X12_roster_17 {l1 : Int32} {l2 : Int32} {l3 : Int32} {s1 : Bool} {M0 : mM} {R : mZ} {out : (Int32 × mM)}  (h : f_X12_roster_17 l1 l2 l3 s1 M0 = some out) (hk : R = emW eI out) : Ev (9) 314 17 [some (.ref 215), some (.int l1), some (.int l2), some (.int l3), none, none, none, none] [.int (mB s1), .ref 215] M0 R := by
  unfold f_X12_roster_17 at h
  refine ev_go kc_314 1 (i' := 18) (L' := [some (.ref 215), some (.int l1), some (.int l2), some (.int l3), none, none, none, none]) (st' := [.int (1 : Int32), .int (mB s1), .ref 215]) (M' := M0) rfl ?_
  obtain ⟨v6, M6, hc6, h⟩ := o_b2 h
  refine ev_cl0 (ins := .invokevirtual 304) kc_314 rfl rfl (a := 181) (as := [.ref 215, .int (mB s1), .int (1 : Int32)]) (rest := []) rfl rfl (Cs.deep (c_X12_throwsIf hc6) (by decide)) ?_
  rcases o_bif h with ⟨hb7, h⟩ | ⟨hb7, h⟩
  · refine ev_goF kc_314 1 (t := 22) (e := 20) (L' := [some (.ref 215), some (.int l1), some (.int l2), some (.int l3), none, none, none, none]) (st' := []) rfl (mB_e0f hb7) ?_
    refine ev_go kc_314 1 (i' := 21) (L' := [some (.ref 215), some (.int l1), some (.int l2), some (.int l3), none, none, none, none]) (st' := [.int (0 : Int32)]) (M' := M6) rfl ?_
    obtain rfl := Option.some.inj h
    rw [hk]
    exact ev_ret kc_314 rfl rfl rfl
  · refine ev_goT kc_314 1 (t := 22) (e := 20) (L' := [some (.ref 215), some (.int l1), some (.int l2), some (.int l3), none, none, none, none]) (st' := []) rfl (mB_e0t hb7) ?_
    refine ev_go kc_314 4 (i' := 26) (L' := [some (.ref 215), some (.int l1), some (.int l2), some (.int l3), none, none, none, none]) (st' := [.int (0 : Int32), .int l2, .int l1, .ref 215]) (M' := M6) rfl ?_
    obtain ⟨v8, M8, hc8, h⟩ := o_b2 h
    refine ev_cl0 (ins := .invokevirtual 448) kc_314 rfl rfl (a := 312) (as := [.ref 215, .int l1, .int l2, .int (0 : Int32)]) (rest := []) rfl rfl (Cs.deep (c_X12_laysPlaces hc8) (by decide)) ?_
    refine ev_go kc_314 1 (i' := 28) (L' := [some (.ref 215), some (.int l1), some (.int l2), some (.int l3), none, none, none, none]) (st' := [.ref 215]) (M' := M8) rfl ?_
    obtain ⟨v9, hc9, h⟩ := o_b1 h
    refine ev_cl0 (ins := .invokevirtual 451) kc_314 rfl rfl (a := 313) (as := [.ref 215]) (rest := []) rfl rfl (Cs.deep (c_X12_fewestPlaces (M0 := M8) hc9) (by decide)) ?_
    rcases o_bif h with ⟨hb10, h⟩ | ⟨hb10, h⟩
    · refine ev_goT kc_314 4 (t := 35) (e := 33) (L' := [some (.ref 215), some (.int l1), some (.int l2), some (.int l3), some (.int v9), none, none, none]) (st' := []) rfl hb10 ?_
      rcases o_bif h with ⟨hb11, h⟩ | ⟨hb11, h⟩
      · refine ev_goT kc_314 3 (t := 40) (e := 38) (L' := [some (.ref 215), some (.int l1), some (.int l2), some (.int l3), some (.int v9), none, none, none]) (st' := []) rfl hb11 ?_
        refine ev_go kc_314 5 (i' := 45) (L' := [some (.ref 215), some (.int l1), some (.int l2), some (.int l3), some (.int v9), none, none, none]) (st' := [.int (l1 - (1 : Int32)), .int (0 : Int32), .int l3]) (M' := M8) rfl ?_
        refine ev_cl0 (ins := .invokestatic 92) kc_314 rfl rfl (a := 182) (as := [.int l3, .int (0 : Int32), .int (l1 - (1 : Int32))]) (rest := []) rfl rfl (Cs.deep (c_X12_in (M0 := M8)) (by decide)) ?_
        rcases o_bif h with ⟨hb13, h⟩ | ⟨hb13, h⟩
        · refine ev_goT kc_314 1 (t := 49) (e := 47) (L' := [some (.ref 215), some (.int l1), some (.int l2), some (.int l3), some (.int v9), none, none, none]) (st' := []) rfl (mB_n0t hb13) ?_
          refine ev_go kc_314 6 (i' := 55) (L' := [some (.ref 215), some (.int l1), some (.int l2), some (.int l3), some (.int v9), some (.int (0 : Int32)), some (.int (0 : Int32)), some (.int (0 : Int32))]) (st' := []) (M' := M8) rfl ?_
          exact Ev.forget (mLe.kp (mLe.sk (mLe.sk (mLe.kp (mLe.kp (mLe.kp (mLe.kp (mLe.kp mLe.nl)))))))) (e_X12_roster_l55  h hk)
        · refine ev_goF kc_314 1 (t := 49) (e := 47) (L' := [some (.ref 215), some (.int l1), some (.int l2), some (.int l3), some (.int v9), none, none, none]) (st' := []) rfl (mB_n0f hb13) ?_
          refine ev_go kc_314 1 (i' := 48) (L' := [some (.ref 215), some (.int l1), some (.int l2), some (.int l3), some (.int v9), none, none, none]) (st' := [.int (-1 : Int32)]) (M' := M8) rfl ?_
          obtain rfl := Option.some.inj h
          rw [hk]
          exact ev_ret kc_314 rfl rfl rfl
      · refine ev_goF kc_314 3 (t := 40) (e := 38) (L' := [some (.ref 215), some (.int l1), some (.int l2), some (.int l3), some (.int v9), none, none, none]) (st' := []) rfl hb11 ?_
        refine ev_go kc_314 1 (i' := 39) (L' := [some (.ref 215), some (.int l1), some (.int l2), some (.int l3), some (.int v9), none, none, none]) (st' := [.int v9]) (M' := M8) rfl ?_
        obtain rfl := Option.some.inj h
        rw [hk]
        exact ev_ret kc_314 rfl rfl rfl
    · refine ev_goF kc_314 4 (t := 35) (e := 33) (L' := [some (.ref 215), some (.int l1), some (.int l2), some (.int l3), some (.int v9), none, none, none]) (st' := []) rfl hb10 ?_
      refine ev_go kc_314 1 (i' := 34) (L' := [some (.ref 215), some (.int l1), some (.int l2), some (.int l3), some (.int v9), none, none, none]) (st' := [.int (-1 : Int32)]) (M' := M8) rfl ?_
      obtain rfl := Option.some.inj h
      rw [hk]
      exact ev_ret kc_314 rfl rfl rfl
def f_X12_roster_14 (l1 : Int32) (l2 : Int32) (l3 : Int32) (M0 : mM) : Option (Int32 × mM) :=
  f_X12_roster_17 l1 l2 l3 true M0
set_option maxRecDepth 8000 in
theorem e_X12_roster_14 {l1 : Int32} {l2 : Int32} {l3 : Int32} {M0 : mM} {R : mZ} {out : (Int32 × mM)}  (h : f_X12_roster_14 l1 l2 l3 M0 = some out) (hk : R = emW eI out) : Ev (9) 314 14 [some (.ref 215), some (.int l1), some (.int l2), some (.int l3), none, none, none, none] [.ref 215] M0 R := by
  unfold f_X12_roster_14 at h
  refine ev_go kc_314 2 (i' := 17) (L' := [some (.ref 215), some (.int l1), some (.int l2), some (.int l3), none, none, none, none]) (st' := [.int (1 : Int32), .ref 215]) (M' := M0) rfl ?_
  exact Ev.forget (mLe.kp (mLe.kp (mLe.kp (mLe.kp (mLe.sk (mLe.sk (mLe.sk (mLe.sk mLe.nl)))))))) (e_X12_roster_17  h hk)
def f_X12_roster (p1 : Int32) (p2 : Int32) (p3 : Int32) (M0 : mM) : Option (Int32 × mM) :=
  wr (mst M0 215 0 (0 : Int32)) (fun M14 => bif (f_X12_in p1 (1 : Int32) (12 : Int32)) then (bif (f_X12_in p2 (0 : Int32) (999 : Int32)) then (f_X12_roster_17 p1 p2 p3 false M14) else (f_X12_roster_14 p1 p2 p3 M14)) else (f_X12_roster_14 p1 p2 p3 M14))
set_option maxRecDepth 8000 in
theorem c_X12_roster {p1 : Int32} {p2 : Int32} {p3 : Int32} {M0 : mM} {out : (Int32 × mM)} (h : f_X12_roster p1 p2 p3 M0 = some out) : Cs (9) 314 [.ref 215, .int p1, .int p2, .int p3] M0 (emW eI out) := by
  generalize hk : emW eI out = R
  replace hk := hk.symm
  unfold f_X12_roster at h
  show Ev (9) 314 0 [some (.ref 215), some (.int p1), some (.int p2), some (.int p3), none, none, none, none] [] M0 R
  refine ev_go kc_314 2 (i' := 2) (L' := [some (.ref 215), some (.int p1), some (.int p2), some (.int p3), none, none, none, none]) (st' := [.int (0 : Int32), .ref 215]) (M' := M0) rfl ?_
  obtain ⟨M14, hM14, h⟩ := o_wr h
  refine ev_pf kc_314 rfl rfl rfl rfl (fun hc => absurd hc (by decide)) hM14 ?_
  refine ev_go kc_314 4 (i' := 7) (L' := [some (.ref 215), some (.int p1), some (.int p2), some (.int p3), none, none, none, none]) (st' := [.int (12 : Int32), .int (1 : Int32), .int p1, .ref 215]) (M' := M14) rfl ?_
  refine ev_cl0 (ins := .invokestatic 92) kc_314 rfl rfl (a := 182) (as := [.int p1, .int (1 : Int32), .int (12 : Int32)]) (rest := [.ref 215]) rfl rfl (Cs.deep (c_X12_in (M0 := M14)) (by decide)) ?_
  rcases o_bif h with ⟨hb16, h⟩ | ⟨hb16, h⟩
  · refine ev_goF kc_314 1 (t := 14) (e := 9) (L' := [some (.ref 215), some (.int p1), some (.int p2), some (.int p3), none, none, none, none]) (st' := [.ref 215]) rfl (mB_e0f hb16) ?_
    refine ev_go kc_314 3 (i' := 12) (L' := [some (.ref 215), some (.int p1), some (.int p2), some (.int p3), none, none, none, none]) (st' := [.int (999 : Int32), .int (0 : Int32), .int p2, .ref 215]) (M' := M14) rfl ?_
    refine ev_cl0 (ins := .invokestatic 92) kc_314 rfl rfl (a := 182) (as := [.int p2, .int (0 : Int32), .int (999 : Int32)]) (rest := [.ref 215]) rfl rfl (Cs.deep (c_X12_in (M0 := M14)) (by decide)) ?_
    rcases o_bif h with ⟨hb18, h⟩ | ⟨hb18, h⟩
    · refine ev_goT kc_314 1 (t := 16) (e := 14) (L' := [some (.ref 215), some (.int p1), some (.int p2), some (.int p3), none, none, none, none]) (st' := [.ref 215]) rfl (mB_n0t hb18) ?_
      refine ev_go kc_314 1 (i' := 17) (L' := [some (.ref 215), some (.int p1), some (.int p2), some (.int p3), none, none, none, none]) (st' := [.int (0 : Int32), .ref 215]) (M' := M14) rfl ?_
      exact Ev.forget (mLe.kp (mLe.kp (mLe.kp (mLe.kp (mLe.sk (mLe.sk (mLe.sk (mLe.sk mLe.nl)))))))) (e_X12_roster_17  h hk)
    · refine ev_goF kc_314 1 (t := 16) (e := 14) (L' := [some (.ref 215), some (.int p1), some (.int p2), some (.int p3), none, none, none, none]) (st' := [.ref 215]) rfl (mB_n0f hb18) ?_
      exact Ev.forget (mLe.kp (mLe.kp (mLe.kp (mLe.kp (mLe.sk (mLe.sk (mLe.sk (mLe.sk mLe.nl)))))))) (e_X12_roster_14  h hk)
  · refine ev_goT kc_314 1 (t := 14) (e := 9) (L' := [some (.ref 215), some (.int p1), some (.int p2), some (.int p3), none, none, none, none]) (st' := [.ref 215]) rfl (mB_e0t hb16) ?_
    exact Ev.forget (mLe.kp (mLe.kp (mLe.kp (mLe.kp (mLe.sk (mLe.sk (mLe.sk (mLe.sk mLe.nl)))))))) (e_X12_roster_14  h hk)
/-- WakeTowerModel.pairs(I)I: 315, W -/
theorem kc_315 : mKc 315 = k_X12_pairs := rfl
def f_X12_pairs_27 (l1 : Int32) (l2 : Int32) (l3 : Int32) (l4 : Int32) (M0 : mM) : Option (((Int32 × mM) ⊕ (Int32 × Int32)) ⊕ (Int32 × Int32)) :=
  bif decide (l3 ≤ l4) then (some (.inl (.inr (l2, (l3 + (1 : Int32)))))) else (b1 (f_X12_of l3 (1 : Int32) M0) (fun v2 => b1 (f_X12_of l4 (1 : Int32) M0) (fun v3 => bif decide ((v2 + v3) < l1) then (some (.inr ((l2 + (0 : Int32)), (l4 + (1 : Int32))))) else (some (.inr ((l2 + (1 : Int32)), (l4 + (1 : Int32))))))))
set_option maxRecDepth 8000 in
theorem e_X12_pairs_27 {l1 : Int32} {l2 : Int32} {l3 : Int32} {l4 : Int32} {M0 : mM} {R : mZ} {out : (((Int32 × mM) ⊕ (Int32 × Int32)) ⊕ (Int32 × Int32))}  (h : f_X12_pairs_27 l1 l2 l3 l4 M0 = some out) (hk : (∀ s' : Int32 × Int32, out = .inr s' → Ev (2) 315 27 [some (.ref 215), some (.int l1), some (.int s'.1), some (.int l3), some (.int s'.2)] [] M0 R) ∧ (∀ e2 : ((Int32 × mM) ⊕ (Int32 × Int32)), out = .inl e2 → (∀ s' : Int32 × Int32, e2 = .inr s' → Ev (2) 315 21 [some (.ref 215), some (.int l1), some (.int s'.1), some (.int s'.2), none] [] M0 R) ∧ (∀ e1 : (Int32 × mM), e2 = .inl e1 → R = emW eI e1))) : Ev (2) 315 27 [some (.ref 215), some (.int l1), some (.int l2), some (.int l3), some (.int l4)] [] M0 R := by
  unfold f_X12_pairs_27 at h
  rcases o_bif h with ⟨hb1, h⟩ | ⟨hb1, h⟩
  · refine ev_goT kc_315 3 (t := 49) (e := 30) (L' := [some (.ref 215), some (.int l1), some (.int l2), some (.int l3), some (.int l4)]) (st' := []) rfl hb1 ?_
    refine ev_go kc_315 2 (i' := 21) (L' := [some (.ref 215), some (.int l1), some (.int l2), some (.int (l3 + (1 : Int32))), some (.int l4)]) (st' := []) (M' := M0) rfl ?_
    obtain rfl := Option.some.inj h
    exact Ev.forget (mLe.kp (mLe.kp (mLe.kp (mLe.kp (mLe.sk mLe.nl))))) ((hk.2 _ rfl).1 (l2, (l3 + (1 : Int32))) rfl)
  · refine ev_goF kc_315 3 (t := 49) (e := 30) (L' := [some (.ref 215), some (.int l1), some (.int l2), some (.int l3), some (.int l4)]) (st' := []) rfl hb1 ?_
    refine ev_go kc_315 4 (i' := 34) (L' := [some (.ref 215), some (.int l1), some (.int l2), some (.int l3), some (.int l4)]) (st' := [.int (1 : Int32), .int l3, .ref 215, .int l2]) (M' := M0) rfl ?_
    obtain ⟨v2, hc2, h⟩ := o_b1 h
    refine ev_cl0 (ins := .invokevirtual 79) kc_315 rfl rfl (a := 193) (as := [.ref 215, .int l3, .int (1 : Int32)]) (rest := [.int l2]) rfl rfl (Cs.deep (c_X12_of (M0 := M0) hc2) (by decide)) ?_
    refine ev_go kc_315 3 (i' := 38) (L' := [some (.ref 215), some (.int l1), some (.int l2), some (.int l3), some (.int l4)]) (st' := [.int (1 : Int32), .int l4, .ref 215, .int v2, .int l2]) (M' := M0) rfl ?_
    obtain ⟨v3, hc3, h⟩ := o_b1 h
    refine ev_cl0 (ins := .invokevirtual 79) kc_315 rfl rfl (a := 193) (as := [.ref 215, .int l4, .int (1 : Int32)]) (rest := [.int v2, .int l2]) rfl rfl (Cs.deep (c_X12_of (M0 := M0) hc3) (by decide)) ?_
    rcases o_bif h with ⟨hb4, h⟩ | ⟨hb4, h⟩
    · refine ev_goT kc_315 3 (t := 44) (e := 42) (L' := [some (.ref 215), some (.int l1), some (.int l2), some (.int l3), some (.int l4)]) (st' := [.int l2]) rfl hb4 ?_
      refine ev_go kc_315 5 (i' := 27) (L' := [some (.ref 215), some (.int l1), some (.int (l2 + (0 : Int32))), some (.int l3), some (.int (l4 + (1 : Int32)))]) (st' := []) (M' := M0) rfl ?_
      obtain rfl := Option.some.inj h
      exact Ev.forget (mLe.kp (mLe.kp (mLe.kp (mLe.kp (mLe.kp mLe.nl))))) (hk.1 ((l2 + (0 : Int32)), (l4 + (1 : Int32))) rfl)
    · refine ev_goF kc_315 3 (t := 44) (e := 42) (L' := [some (.ref 215), some (.int l1), some (.int l2), some (.int l3), some (.int l4)]) (st' := [.int l2]) rfl hb4 ?_
      refine ev_go kc_315 6 (i' := 27) (L' := [some (.ref 215), some (.int l1), some (.int (l2 + (1 : Int32))), some (.int l3), some (.int (l4 + (1 : Int32)))]) (st' := []) (M' := M0) rfl ?_
      obtain rfl := Option.some.inj h
      exact Ev.forget (mLe.kp (mLe.kp (mLe.kp (mLe.kp (mLe.kp mLe.nl))))) (hk.1 ((l2 + (1 : Int32)), (l4 + (1 : Int32))) rfl)
def f_X12_pairs_l27 (l1 : Int32) (l3 : Int32) (l2 : Int32) (l4 : Int32) (M0 : mM) : Option ((Int32 × mM) ⊕ (Int32 × Int32)) :=
  wh 100000 (fun s : Int32 × Int32 => f_X12_pairs_27 l1 s.1 l3 s.2 M0) (l2, l4)
theorem e_X12_pairs_l27 {l1 : Int32} {l2 : Int32} {l3 : Int32} {l4 : Int32} {M0 : mM} {R : mZ} {out : ((Int32 × mM) ⊕ (Int32 × Int32))}  (h : f_X12_pairs_l27 l1 l3 l2 l4 M0 = some out) (hk : (∀ s' : Int32 × Int32, out = .inr s' → Ev (2) 315 21 [some (.ref 215), some (.int l1), some (.int s'.1), some (.int s'.2), none] [] M0 R) ∧ (∀ e1 : (Int32 × mM), out = .inl e1 → R = emW eI e1)) : Ev (2) 315 27 [some (.ref 215), some (.int l1), some (.int l2), some (.int l3), some (.int l4)] [] M0 R := by
  unfold f_X12_pairs_l27 at h
  exact wh_ev (P := fun s : Int32 × Int32 => Ev (2) 315 27 [some (.ref 215), some (.int l1), some (.int s.1), some (.int l3), some (.int s.2)] [] M0 R) (Q := fun e : ((Int32 × mM) ⊕ (Int32 × Int32)) => (∀ s' : Int32 × Int32, e = .inr s' → Ev (2) 315 21 [some (.ref 215), some (.int l1), some (.int s'.1), some (.int s'.2), none] [] M0 R) ∧ (∀ e1 : (Int32 × mM), e = .inl e1 → R = emW eI e1)) (fun s o hb h1 h2 => e_X12_pairs_27  hb ⟨h1, h2⟩) 100000 _ _ h hk
def f_X12_pairs_21 (l1 : Int32) (l2 : Int32) (l3 : Int32) (M0 : mM) : Option ((Int32 × mM) ⊕ (Int32 × Int32)) :=
  b1 (f_X12_people M0) (fun v5 => bif decide (v5 ≤ l3) then (some (.inl (l2, M0))) else (f_X12_pairs_l27 l1 l3 l2 (0 : Int32) M0))
set_option maxRecDepth 8000 in
theorem e_X12_pairs_21 {l1 : Int32} {l2 : Int32} {l3 : Int32} {M0 : mM} {R : mZ} {out : ((Int32 × mM) ⊕ (Int32 × Int32))}  (h : f_X12_pairs_21 l1 l2 l3 M0 = some out) (hk : (∀ s' : Int32 × Int32, out = .inr s' → Ev (2) 315 21 [some (.ref 215), some (.int l1), some (.int s'.1), some (.int s'.2), none] [] M0 R) ∧ (∀ e1 : (Int32 × mM), out = .inl e1 → R = emW eI e1)) : Ev (2) 315 21 [some (.ref 215), some (.int l1), some (.int l2), some (.int l3), none] [] M0 R := by
  unfold f_X12_pairs_21 at h
  refine ev_go kc_315 2 (i' := 23) (L' := [some (.ref 215), some (.int l1), some (.int l2), some (.int l3), none]) (st' := [.ref 215, .int l3]) (M' := M0) rfl ?_
  obtain ⟨v5, hc5, h⟩ := o_b1 h
  refine ev_cl0 (ins := .invokevirtual 71) kc_315 rfl rfl (a := 190) (as := [.ref 215]) (rest := [.int l3]) rfl rfl (Cs.deep (c_X12_people (M0 := M0) hc5) (by decide)) ?_
  rcases o_bif h with ⟨hb6, h⟩ | ⟨hb6, h⟩
  · refine ev_goT kc_315 1 (t := 51) (e := 25) (L' := [some (.ref 215), some (.int l1), some (.int l2), some (.int l3), none]) (st' := []) rfl hb6 ?_
    refine ev_go kc_315 1 (i' := 52) (L' := [some (.ref 215), some (.int l1), some (.int l2), some (.int l3), none]) (st' := [.int l2]) (M' := M0) rfl ?_
    obtain rfl := Option.some.inj h
    rw [show _ from (hk.2 _ rfl)]
    exact ev_ret kc_315 rfl rfl rfl
  · refine ev_goF kc_315 1 (t := 51) (e := 25) (L' := [some (.ref 215), some (.int l1), some (.int l2), some (.int l3), none]) (st' := []) rfl hb6 ?_
    refine ev_go kc_315 2 (i' := 27) (L' := [some (.ref 215), some (.int l1), some (.int l2), some (.int l3), some (.int (0 : Int32))]) (st' := []) (M' := M0) rfl ?_
    exact Ev.forget (mLe.kp (mLe.kp (mLe.kp (mLe.kp (mLe.kp mLe.nl))))) (e_X12_pairs_l27  h hk)
def f_X12_pairs_l21 (l1 : Int32) (l2 : Int32) (l3 : Int32) (M0 : mM) : Option (Int32 × mM) :=
  wh 100000 (fun s : Int32 × Int32 => f_X12_pairs_21 l1 s.1 s.2 M0) (l2, l3)
theorem e_X12_pairs_l21 {l1 : Int32} {l2 : Int32} {l3 : Int32} {M0 : mM} {R : mZ} {out : (Int32 × mM)}  (h : f_X12_pairs_l21 l1 l2 l3 M0 = some out) (hk : R = emW eI out) : Ev (2) 315 21 [some (.ref 215), some (.int l1), some (.int l2), some (.int l3), none] [] M0 R := by
  unfold f_X12_pairs_l21 at h
  exact wh_ev (P := fun s : Int32 × Int32 => Ev (2) 315 21 [some (.ref 215), some (.int l1), some (.int s.1), some (.int s.2), none] [] M0 R) (Q := fun e : (Int32 × mM) => R = emW eI e) (fun s o hb h1 h2 => e_X12_pairs_21  hb ⟨h1, h2⟩) 100000 _ _ h hk
def f_X12_pairs_12 (l1 : Int32) (s1 : Bool) (M0 : mM) : Option (Int32 × mM) :=
  b2 (f_X12_throwsIf s1 (1 : Int32) M0) (fun v7 M7 => bif v7 then (some ((0 : Int32), M7)) else (f_X12_pairs_l21 l1 (0 : Int32) (0 : Int32) M7))
set_option maxRecDepth 8000 in
theorem e_X12_pairs_12 {l1 : Int32} {s1 : Bool} {M0 : mM} {R : mZ} {out : (Int32 × mM)}  (h : f_X12_pairs_12 l1 s1 M0 = some out) (hk : R = emW eI out) : Ev (2) 315 12 [some (.ref 215), some (.int l1), none, none, none] [.int (mB s1), .ref 215] M0 R := by
  unfold f_X12_pairs_12 at h
  refine ev_go kc_315 1 (i' := 13) (L' := [some (.ref 215), some (.int l1), none, none, none]) (st' := [.int (1 : Int32), .int (mB s1), .ref 215]) (M' := M0) rfl ?_
  obtain ⟨v7, M7, hc7, h⟩ := o_b2 h
  refine ev_cl0 (ins := .invokevirtual 304) kc_315 rfl rfl (a := 181) (as := [.ref 215, .int (mB s1), .int (1 : Int32)]) (rest := []) rfl rfl (Cs.deep (c_X12_throwsIf hc7) (by decide)) ?_
  rcases o_bif h with ⟨hb8, h⟩ | ⟨hb8, h⟩
  · refine ev_goF kc_315 1 (t := 17) (e := 15) (L' := [some (.ref 215), some (.int l1), none, none, none]) (st' := []) rfl (mB_e0f hb8) ?_
    refine ev_go kc_315 1 (i' := 16) (L' := [some (.ref 215), some (.int l1), none, none, none]) (st' := [.int (0 : Int32)]) (M' := M7) rfl ?_
    obtain rfl := Option.some.inj h
    rw [hk]
    exact ev_ret kc_315 rfl rfl rfl
  · refine ev_goT kc_315 1 (t := 17) (e := 15) (L' := [some (.ref 215), some (.int l1), none, none, none]) (st' := []) rfl (mB_e0t hb8) ?_
    refine ev_go kc_315 4 (i' := 21) (L' := [some (.ref 215), some (.int l1), some (.int (0 : Int32)), some (.int (0 : Int32)), none]) (st' := []) (M' := M7) rfl ?_
    exact Ev.forget (mLe.kp (mLe.kp (mLe.kp (mLe.kp (mLe.sk mLe.nl))))) (e_X12_pairs_l21  h hk)
def f_X12_pairs (p1 : Int32) (M0 : mM) : Option (Int32 × mM) :=
  wr (mst M0 215 0 (0 : Int32)) (fun M9 => bif (f_X12_in p1 (0 : Int32) (999 : Int32)) then (f_X12_pairs_12 p1 false M9) else (f_X12_pairs_12 p1 true M9))
set_option maxRecDepth 8000 in
theorem c_X12_pairs {p1 : Int32} {M0 : mM} {out : (Int32 × mM)} (h : f_X12_pairs p1 M0 = some out) : Cs (2) 315 [.ref 215, .int p1] M0 (emW eI out) := by
  generalize hk : emW eI out = R
  replace hk := hk.symm
  unfold f_X12_pairs at h
  show Ev (2) 315 0 [some (.ref 215), some (.int p1), none, none, none] [] M0 R
  refine ev_go kc_315 2 (i' := 2) (L' := [some (.ref 215), some (.int p1), none, none, none]) (st' := [.int (0 : Int32), .ref 215]) (M' := M0) rfl ?_
  obtain ⟨M9, hM9, h⟩ := o_wr h
  refine ev_pf kc_315 rfl rfl rfl rfl (fun hc => absurd hc (by decide)) hM9 ?_
  refine ev_go kc_315 4 (i' := 7) (L' := [some (.ref 215), some (.int p1), none, none, none]) (st' := [.int (999 : Int32), .int (0 : Int32), .int p1, .ref 215]) (M' := M9) rfl ?_
  refine ev_cl0 (ins := .invokestatic 92) kc_315 rfl rfl (a := 182) (as := [.int p1, .int (0 : Int32), .int (999 : Int32)]) (rest := [.ref 215]) rfl rfl (Cs.deep (c_X12_in (M0 := M9)) (by decide)) ?_
  rcases o_bif h with ⟨hb11, h⟩ | ⟨hb11, h⟩
  · refine ev_goT kc_315 1 (t := 11) (e := 9) (L' := [some (.ref 215), some (.int p1), none, none, none]) (st' := [.ref 215]) rfl (mB_n0t hb11) ?_
    refine ev_go kc_315 1 (i' := 12) (L' := [some (.ref 215), some (.int p1), none, none, none]) (st' := [.int (0 : Int32), .ref 215]) (M' := M9) rfl ?_
    exact Ev.forget (mLe.kp (mLe.kp (mLe.sk (mLe.sk (mLe.sk mLe.nl))))) (e_X12_pairs_12  h hk)
  · refine ev_goF kc_315 1 (t := 11) (e := 9) (L' := [some (.ref 215), some (.int p1), none, none, none]) (st' := [.ref 215]) rfl (mB_n0f hb11) ?_
    refine ev_go kc_315 2 (i' := 12) (L' := [some (.ref 215), some (.int p1), none, none, none]) (st' := [.int (1 : Int32), .ref 215]) (M' := M9) rfl ?_
    exact Ev.forget (mLe.kp (mLe.kp (mLe.sk (mLe.sk (mLe.sk mLe.nl))))) (e_X12_pairs_12  h hk)
